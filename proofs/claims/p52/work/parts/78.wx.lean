-- ===== a watch: what is done =====
def xP (T : Tw) (r : Nat) (b : Bl) (a : Int32 × Int32 × Int32) : Int32 × Bl := if a.1 = 0 then tkP r b a.2.1 else if a.1 = 1 then lvP r b a.2.1 else if a.1 = 2 then rvP r b a.2.1 a.2.2 else if a.1 = 3 then mnP b a.2.1 else psP T b a.2.1
theorem okRq_it {T : Tw} {r : Nat} : ∀ n (b : Bl), okRq b r → okRq (itM T n b) r := by
  intro n
  induction n with
  | zero => intro b h; exact h
  | succ n ih => intro b h; exact ih _ (okRq_mi h)
theorem okRq_mn {b : Bl} {r : Nat} (h : okRq b r) (x : Int32) : okRq (mnP b x).2 r := by
  obtain ⟨s, h1, h2, h3⟩ := h
  unfold mnP
  split
  · exact ⟨s, h1, h2, h3⟩
  · split
    · exact ⟨s, h1, h2, h3⟩
    · exact ⟨s, h1, h2, h3⟩
theorem okRq_ps {T : Tw} {b : Bl} {r : Nat} (h : okRq b r) (x : Int32) : okRq (psP T b x).2 r := by
  unfold psP
  split
  · exact h
  · split
    · exact okRq_it _ _ h
    · exact h
theorem okRq_rv {b : Bl} {r : Nat} (hr : r ≤ 8) (h : okRq b r) (x y : Int32) : okRq (rvP r b x y).2 r := by
  unfold rvP
  split
  · exact (lvP_ok hr h x).1
  · split
    · exact h
    · exact (tkP_ok hr (lvP_ok hr h x).1 y).1
theorem okRq_x {T : Tw} {b : Bl} {r : Nat} (hr : r ≤ 8) (h : okRq b r) (a : Int32 × Int32 × Int32) : okRq (xP T r b a).2 r := by
  unfold xP
  split
  · exact (tkP_ok hr h _).1
  · split
    · exact (lvP_ok hr h _).1
    · split
      · exact okRq_rv hr h _ _
      · split
        · exact okRq_mn h _
        · exact okRq_ps h _
theorem BlI_x {T : Tw} {r p N K : Nat} (ok : okTw T r p N) {b : Bl} (h : BlI b r p K) (a : Int32 × Int32 × Int32) : BlI (xP T r b a).2 r p (K + 120) := by
  unfold xP
  split
  · exact BlI_K (BlI_tk ok.1 h _) (by omega)
  · split
    · exact BlI_K (BlI_lv ok.1 h _) (by omega)
    · split
      · exact BlI_K (BlI_rv ok.1 h _ _) (by omega)
      · split
        · exact BlI_K (BlI_mn h _).1 (by omega)
        · exact (BlI_ps ok h _).1
def rnP (T : Tw) (r : Nat) (t : Nat → Int32) (e : Nat) : List Nat → Nat → Bl → Bool × Nat × Bl
  | [], d, b => (false, d, b)
  | p :: l, d, b => if (xP T r b (acP t e p)).1 < 0 then (true, d, (xP T r b (acP t e p)).2) else rnP T r t e l (d + 1) (xP T r b (acP t e p)).2
theorem rn_len (T : Tw) (r : Nat) (t : Nat → Int32) (e : Nat) : ∀ l d b, (rnP T r t e l d b).2.1 ≤ d + l.length ∧ ((rnP T r t e l d b).1 = true ↔ (rnP T r t e l d b).2.1 < d + l.length) := by
  intro l
  induction l with
  | nil => intro d b; exact ⟨Nat.le_refl _, ⟨fun h => absurd (show false = true from h) (by decide), fun h => absurd (show d < d + 0 from h) (by omega)⟩⟩
  | cons p l ih =>
    intro d b
    rw [rnP]
    by_cases c : (xP T r b (acP t e p)).1 < 0
    · rw [if_pos c]
      exact ⟨by show d ≤ d + (l.length + 1); omega, ⟨fun _ => by show d < d + (l.length + 1); omega, fun _ => rfl⟩⟩
    · rw [if_neg c]
      have := ih (d + 1) (xP T r b (acP t e p)).2
      rw [show d + (p :: l).length = d + 1 + l.length from by show d + (l.length + 1) = _; omega]
      exact this
theorem BlI_rn {T : Tw} {r p N : Nat} (ok : okTw T r p N) (t : Nat → Int32) (e : Nat) : ∀ l d b K, BlI b r p K → BlI (rnP T r t e l d b).2.2 r p (K + 120 * l.length) := by
  intro l
  induction l with
  | nil => intro d b K h; exact h
  | cons q l ih =>
    intro d b K h
    rw [rnP]
    have hx := BlI_x ok h (acP t e q)
    have e1 : (q :: l).length = l.length + 1 := rfl
    split
    · exact BlI_K hx (by omega)
    · exact BlI_K (ih (d + 1) _ _ hx) (by omega)
-- the class
theorem Fr23 {w w2 : Wd} (h : Fr (fun b => b = 23) w w2) : Fr P23 w w2 := h.imp (fun _ h => .inl h)
theorem v_X10_relieve {F : Nat} {w : Wd} {r : Nat} (hr : r ≤ 8) (er : gI w 6 2 = nI r) (hq : okRq (bC w 23) r) (x y : Int32) : ∃ w2, P_X10_relieve F w x y = some ((rvP r (bC w 23) x y).1, w2) ∧ Fr (fun b => b = 23) w w2 ∧ bC w2 23 = (rvP r (bC w 23) x y).2 := by
  unfold P_X10_relieve rvP
  obtain ⟨w1, a1, a2, a3⟩ := v_X10_letGo (F := F) hr er x
  rw [lt_v, bnd_r a1]
  by_cases c : (lvP r (bC w 23) x).1 < 0
  · rw [if_neg (Int32.not_le.mpr c), if_pos c]
    exact ⟨w1, rfl, a2, a3⟩
  · rw [if_pos (Int32.not_lt.mp c), if_neg c]
    have e1 : gI w1 6 2 = nI r := by rw [(a2 6 (by decide)).1]; exact er
    obtain ⟨w2, b1, b2, b3⟩ := v_X10_grasp (F := F) hr e1 y
    rw [a3] at b1 b3
    rw [bnd_r b1]
    by_cases d : (tkP r (lvP r (bC w 23) x).2 y).1 < 0
    · rw [if_neg (Int32.not_le.mpr d), if_pos d, lt_v]
      refine ⟨_, rfl, (a2.tr b2 (fun _ h => h) (fun _ h => h)).tr Fr.ofI (fun _ h => h) (fun _ h => h), ?_⟩
      rw [bC_rope, b3, tk_bad hr (lvP_ok hr hq x).1 y d]
      exact lv_back hr hq x
    · rw [if_pos (Int32.not_lt.mp d), if_neg d]
      exact ⟨w2, rfl, a2.tr b2 (fun _ h => h) (fun _ h => h), b3⟩
theorem TxC_fr {q : Nat → Prop} {w w2 : Wd} {t : Nat → Int32} {n : Nat} (h : TxC w t n) (f : Fr q w w2) (h1 : ¬ q 1) (h2 : ¬ q 2) : TxC w2 t n := ⟨by rw [(f 1 h1).1]; exact h.1, h.2.1, fun k hk => by rw [(f 2 h2).1]; exact h.2.2 k hk⟩
theorem P23_n {a : Nat} (h : a < 14) : ¬ P23 a := by unfold P23 Scr; omega
theorem v_X10_act {F : Nat} (hF : 1000 ≤ F) {w : Wd} {t : Nat → Int32} {n : Nat} (h : TxC w t n) (okt : okT w 5) {r : Nat} (hr : r ≤ 8) (er : gI w 6 2 = nI r) (hq : okRq (bC w 23) r) (p : Nat) (hp : p < n) : ∃ w2, P_X10_act F w (nI p) = some ((xP (tC w 5) r (bC w 23) (acP t n p)).1, w2) ∧ Fr P23 w w2 ∧ bC w2 23 = (xP (tC w 5) r (bC w 23) (acP t n p)).2 := by
  have hn := h.2.1
  have nm : ∀ q d, q < 900 → d ≤ 3 → P_X8_number F w (nI q) (nI d) = some (valP t n d q 0, w) := fun q d h1 h2 => v_X8_number (F := F) (by omega) h q d h1 h2
  unfold P_X10_act
  rw [bnd_r (v_X8_at F h p (by omega)), nI_1, show nI p + 2 = nI (p + 2) from nI_add p 2]
  rcases sg5 (atP t n p) with ⟨c1, c2⟩ | ⟨c1, c2⟩ | ⟨c1, c2⟩ | ⟨c1, c2⟩ | ⟨c1, c2⟩
  · have hs : sgP t n p = 0 := c2
    have e1 : p1P t n p = p + 1 := by unfold p1P; rw [hs, if_neg (show ¬ (0 : Int32) < 0 from by decide)]
    have ea : acP t n p = (0, valP t n 1 (p + 1) 0, valP t n 1 (p + 1 + 1) 0) := by
      unfold acP; rw [hs, e1, if_neg (show ¬ (0 : Int32) = 2 from by decide), show mS 0 = 1 from by decide]
    have ex : xP (tC w 5) r (bC w 23) (acP t n p) = tkP r (bC w 23) (valP t n 1 (p + 1) 0) := by
      rw [ea]; unfold xP; rw [if_pos (show (0 : Int32) = 0 from rfl)]
    obtain ⟨w2, a1, a2, a3⟩ := v_X10_grasp (F := F) hr er (valP t n 1 (p + 1) 0)
    rw [c1, if_neg (by decide), if_neg (by decide), if_neg (by decide), if_pos rfl, bnd_r (show P_X8_number F w (nI (p + 1)) 1 = _ from nm (p + 1) 1 (by omega) (by omega)), bnd_r a1, ex]
    exact ⟨w2, rfl, Fr23 a2, a3⟩
  · have hs : sgP t n p = 1 := c2
    have e1 : p1P t n p = p + 1 := by unfold p1P; rw [hs, if_neg (show ¬ (1 : Int32) < 0 from by decide)]
    have ea : acP t n p = (1, valP t n 1 (p + 1) 0, valP t n 1 (p + 1 + 1) 0) := by
      unfold acP; rw [hs, e1, if_neg (show ¬ (1 : Int32) = 2 from by decide), show mS 1 = 1 from by decide]
    have ex : xP (tC w 5) r (bC w 23) (acP t n p) = lvP r (bC w 23) (valP t n 1 (p + 1) 0) := by
      rw [ea]; unfold xP; rw [if_neg (show ¬ (1 : Int32) = 0 from by decide), if_pos (show (1 : Int32) = 1 from rfl)]
    obtain ⟨w2, a1, a2, a3⟩ := v_X10_letGo (F := F) hr er (valP t n 1 (p + 1) 0)
    rw [c1, if_neg (by decide), if_pos rfl, bnd_r (show P_X8_number F w (nI (p + 1)) 1 = _ from nm (p + 1) 1 (by omega) (by omega)), bnd_r a1, ex]
    exact ⟨w2, rfl, Fr23 a2, a3⟩
  · have hs : sgP t n p = 2 := c2
    have e1 : p1P t n p = p + 1 := by unfold p1P; rw [hs, if_neg (show ¬ (2 : Int32) < 0 from by decide)]
    have ea : acP t n p = (2, valP t n 1 (p + 1) 0, valP t n 1 (p + 1 + 1) 0) := by
      unfold acP; rw [hs, e1, if_pos (show (2 : Int32) = 2 from rfl)]
    have ex : xP (tC w 5) r (bC w 23) (acP t n p) = rvP r (bC w 23) (valP t n 1 (p + 1) 0) (valP t n 1 (p + 2) 0) := by
      rw [ea]; unfold xP; rw [if_neg (show ¬ (2 : Int32) = 0 from by decide), if_neg (show ¬ (2 : Int32) = 1 from by decide), if_pos (show (2 : Int32) = 2 from rfl)]
    obtain ⟨w2, a1, a2, a3⟩ := v_X10_relieve (F := F) hr er hq (valP t n 1 (p + 1) 0) (valP t n 1 (p + 2) 0)
    rw [c1, if_pos rfl, bnd_r (show P_X8_number F w (nI (p + 1)) 1 = _ from nm (p + 1) 1 (by omega) (by omega)), bnd_r (show P_X8_number F w (nI (p + 2)) 1 = _ from nm (p + 2) 1 (by omega) (by omega)), bnd_r a1, ex]
    exact ⟨w2, rfl, Fr23 a2, a3⟩
  · have hs : sgP t n p = 3 := c2
    have e1 : p1P t n p = p + 1 := by unfold p1P; rw [hs, if_neg (show ¬ (3 : Int32) < 0 from by decide)]
    have ea : acP t n p = (3, valP t n 2 (p + 1) 0, valP t n 1 (p + 1 + 1) 0) := by
      unfold acP; rw [hs, e1, if_neg (show ¬ (3 : Int32) = 2 from by decide), show mS 3 = 2 from by decide]
    have ex : xP (tC w 5) r (bC w 23) (acP t n p) = mnP (bC w 23) (valP t n 2 (p + 1) 0) := by
      rw [ea]; unfold xP; rw [if_neg (show ¬ (3 : Int32) = 0 from by decide), if_neg (show ¬ (3 : Int32) = 1 from by decide), if_neg (show ¬ (3 : Int32) = 2 from by decide), if_pos (show (3 : Int32) = 3 from rfl)]
    obtain ⟨w2, a1, a2, a3⟩ := v_X10_splice F w (valP t n 2 (p + 1) 0)
    rw [c1, if_neg (by decide), if_neg (by decide), if_pos rfl, bnd_r (show P_X8_number F w (nI (p + 1)) 2 = _ from nm (p + 1) 2 (by omega) (by omega)), bnd_r a1, ex]
    exact ⟨w2, rfl, Fr23 a2, a3⟩
  · have hs : sgP t n p = -1 := c2
    have e1 : p1P t n p = p := by unfold p1P; rw [hs, if_pos (show (-1 : Int32) < 0 from by decide), Nat.add_zero]
    have ea : acP t n p = ((-1), valP t n 3 (p) 0, valP t n 1 (p + 1) 0) := by
      unfold acP; rw [hs, e1, if_neg (show ¬ ((-1) : Int32) = 2 from by decide), show mS (-1) = 3 from by decide]
    have ex : xP (tC w 5) r (bC w 23) (acP t n p) = psP (tC w 5) (bC w 23) (valP t n 3 p 0) := by
      rw [ea]; unfold xP; rw [if_neg (show ¬ ((-1) : Int32) = 0 from by decide), if_neg (show ¬ ((-1) : Int32) = 1 from by decide), if_neg (show ¬ ((-1) : Int32) = 2 from by decide), if_neg (show ¬ ((-1) : Int32) = 3 from by decide)]
    obtain ⟨w2, a1, a2, a3⟩ := v_X10_pass (F := F) (by omega) okt (valP t n 3 p 0)
    rw [if_neg c1.2.2.1, if_neg c1.2.1, if_neg c1.2.2.2, if_neg c1.1, bnd_r (show P_X8_number F w (nI p) 3 = _ from nm p 3 (by omega) (by omega)), bnd_r a1, ex]
    exact ⟨w2, rfl, a2, a3⟩
theorem v_X0_beginsAt (F : Nat) {w : Wd} {t : Nat → Int32} {n : Nat} (h : TxC w t n) (p : Nat) (hp : p < 1000) : P_X0_beginsAt F w (nI p) = some (if p = 0 ∨ atP t n (p - 1) = 59 then 1 else 0, w) := by
  unfold P_X0_beginsAt K_X0_beginsAt_16
  by_cases c : p = 0
  · subst c; rw [if_pos (show nI 0 = 0 from rfl), if_pos (.inl rfl)]
  · obtain ⟨q, rfl⟩ : ∃ q, p = q + 1 := ⟨p - 1, by omega⟩
    rw [if_neg (nI_ne0 (by omega) (by omega)), nI_pred, bnd_r (v_X8_at F h q (by omega)), lt_v]
    by_cases d : atP t n q = 59
    · rw [if_pos d, if_pos (.inr d)]; rfl
    · rw [if_neg d, if_neg (show ¬ (q + 1 = 0 ∨ atP t n (q + 1 - 1) = 59) from fun h => h.elim c d)]; rfl
theorem wt_skip {F : Nat} (kk : Wd → Int32 → Int32 → Option (Int32 × Wd)) {w : Wd} {t : Nat → Int32} {n : Nat} (h : TxC w t n) (d : Int32) : ∀ c f q, 0 < q → q + c ≤ n → (∀ i, i < c → ¬ atP t n (q + i - 1) = 59) → L_X10_watch_42 F kk (f + c) w d 0 (nI q) = L_X10_watch_42 F kk f w d 0 (nI (q + c)) := by
  intro c
  have hn := h.2.1
  induction c with
  | zero => intro f q _ _ _; rfl
  | succ c ih =>
    intro f q h0 h1 h2
    rw [show f + (c + 1) = f + c + 1 from by omega, L_X10_watch_42, h.1, if_neg (nI_ge (by omega) (by omega)), if_pos (show (0 : Int32) = 0 from rfl), bnd_r (v_X0_beginsAt F h q (by omega)), if_neg (show ¬ (q = 0 ∨ atP t n (q - 1) = 59) from fun hh => hh.elim (by omega) (h2 0 (by omega))), if_pos (show (0 : Int32) = 0 from rfl)]
    show L_X10_watch_42 F kk (f + c) w d 0 (nI q + 1) = _
    rw [nI_1, ih f (q + 1) (by omega) (by omega) (fun i hi => by rw [show q + 1 + i - 1 = q + (i + 1) - 1 from by omega]; exact h2 (i + 1) (by omega)), show q + 1 + c = q + (c + 1) from by omega]
theorem l_X10_watch {F : Nat} (hF : 1000 ≤ F) (kk : Wd → Int32 → Int32 → Option (Int32 × Wd)) {T : Tw} {t : Nat → Int32} {n r : Nat} (hr : r ≤ 8) : ∀ m p f w d, p ≤ n → n < p + m → n + 1 < p + f → (p = 0 ∨ atP t n (p - 1) = 59) → (wP t n m p).1 = true → (wP t n m p).2.1 = n → TxC w t n → okT w 5 → tC w 5 = T → gI w 6 2 = nI r → okRq (bC w 23) r → ∃ w2, L_X10_watch_42 F kk f w (nI d) 0 (nI p) = kk w2 (nI (rnP T r t n (wP t n m p).2.2 d (bC w 23)).2.1) (if (rnP T r t n (wP t n m p).2.2 d (bC w 23)).1 = true then 1 else 0) ∧ Fr P23 w w2 ∧ bC w2 23 = (rnP T r t n (wP t n m p).2.2 d (bC w 23)).2.2 := by
  intro m
  induction m with
  | zero => intro p f w d h1 h2; omega
  | succ m ih =>
    intro p f w d h1 h2 h3 hb ho ha h okt eT er hq
    have hn := h.2.1
    have hok : raOk t n p := by
      by_cases c : raOk t n p ∧ atP t n (raAt t n p) = 59
      · exact c.1
      · rw [wP_no c] at ho; exact of_decide_eq_true ho
    have h4 := ra_ok h1 hok
    have h5 := ra_le (t := t) h1
    obtain ⟨f, rfl⟩ : ∃ q, f = q + 1 := ⟨f - 1, by omega⟩
    obtain ⟨w1, a1, a2, a3⟩ := v_X10_act (F := F) hF h okt hr er hq p (by omega)
    rw [eT] at a1 a3
    have h1x : TxC w1 t n := TxC_fr h a2 (P23_n (by decide)) (P23_n (by decide))
    rw [L_X10_watch_42, h.1, if_neg (nI_ge (by omega) (by omega)), if_pos (show (0 : Int32) = 0 from rfl), bnd_r (v_X0_beginsAt F h p (by omega)), if_pos hb, if_neg (show ¬ (1 : Int32) = 0 from by decide), bnd_r a1, lt_v, lt_v, lt_v]
    have hl : ∃ l, (wP t n (m + 1) p).2.2 = p :: l ∧ ((atP t n (raAt t n p) = 59 ∧ l = (wP t n m (raAt t n p + 1)).2.2 ∧ (wP t n m (raAt t n p + 1)).1 = true ∧ (wP t n m (raAt t n p + 1)).2.1 = n) ∨ (raAt t n p = n ∧ l = [])) := by
      by_cases c : raOk t n p ∧ atP t n (raAt t n p) = 59
      · rw [wP_yes c] at ho ha ⊢
        exact ⟨_, rfl, .inl ⟨c.2, rfl, ho, ha⟩⟩
      · rw [wP_no c] at ha ⊢
        exact ⟨_, rfl, .inr ⟨ha, rfl⟩⟩
    obtain ⟨l, el, hl⟩ := hl
    rw [el, rnP]
    by_cases c : (xP T r (bC w 23) (acP t n p)).1 < 0
    · rw [if_neg (Int32.not_le.mpr c), if_neg (show ¬ (1 : Int32) = 0 from by decide), add0, if_pos c]
      refine ⟨w1, ?_, a2, a3⟩
      obtain ⟨f, rfl⟩ : ∃ q, f = q + 1 := ⟨f - 1, by omega⟩
      show L_X10_watch_42 F kk (f + 1) w1 (nI d) 1 (nI p + 1) = _
      rw [nI_1, L_X10_watch_42, if_neg (show ¬ (1 : Int32) = 0 from by decide), h1x.1]
      by_cases e : n ≤ p + 1
      · rw [if_pos (nI_le e (by omega))]; rfl
      · rw [if_neg (nI_ge (by omega) (by omega))]; rfl
    · rw [if_pos (Int32.not_lt.mp c), if_pos (show (0 : Int32) = 0 from rfl), if_neg c, nI_1]
      have okt1 := okT_fr Kp_P23 a2 okt
      have eT1 : tC w1 5 = T := by rw [tC_fr Kp_P23 a2 okt]; exact eT
      have er1 : gI w1 6 2 = nI r := by rw [(a2 6 (P23_n (by decide))).1]; exact er
      have hq1 : okRq (bC w1 23) r := by rw [a3]; exact okRq_x hr hq _
      have hno : ∀ i, p + 1 + i ≤ raAt t n p → ¬ atP t n (p + 1 + i - 1) = 59 := fun i hi => no59 (t := t) (e := n) (p := p) (by omega) (by omega)
      show ∃ w2, L_X10_watch_42 F kk f w1 (nI (d + 1)) 0 (nI p + 1) = _ ∧ _
      rw [nI_1]
      rcases hl with ⟨q1, q2, q3, q4⟩ | ⟨q1, q2⟩
      · have hlt : raAt t n p < n := by
          by_cases z : raAt t n p < n
          · exact z
          · rw [show atP t n (raAt t n p) = -1 from if_neg z] at q1; exact absurd q1 (by decide)
        obtain ⟨g, hg⟩ : ∃ g, f = g + (raAt t n p - p) := ⟨f - (raAt t n p - p), by omega⟩
        have sk := wt_skip (F := F) kk h1x (nI (d + 1)) (raAt t n p - p) g (p + 1) (by omega) (by omega) (fun i hi => hno i (by omega))
        rw [hg, sk, show p + 1 + (raAt t n p - p) = raAt t n p + 1 from by omega]
        obtain ⟨w2, b1, b2, b3⟩ := ih (raAt t n p + 1) g w1 (d + 1) (by omega) (by omega) (by omega) (.inr q1) q3 q4 h1x okt1 eT1 er1 hq1
        rw [a3, ← q2] at b1 b3
        exact ⟨w2, b1, a2.tr b2 (fun _ h => h) (fun _ h => h), b3⟩
      · obtain ⟨g, hg⟩ : ∃ g, f = g + (n - (p + 1)) := ⟨f - (n - (p + 1)), by omega⟩
        have sk := wt_skip (F := F) kk h1x (nI (d + 1)) (n - (p + 1)) g (p + 1) (by omega) (by omega) (fun i hi => hno i (by omega))
        rw [hg, sk, show p + 1 + (n - (p + 1)) = n from by omega]
        obtain ⟨g, rfl⟩ : ∃ q, g = q + 1 := ⟨g - 1, by omega⟩
        rw [q2, L_X10_watch_42, h1x.1, if_pos (Int32.le_refl _)]
        exact ⟨w1, rfl, a2, a3⟩

