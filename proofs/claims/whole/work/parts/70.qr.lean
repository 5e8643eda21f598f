-- ===== the model asked about the night =====
theorem wysM_fr {q : Nat → Nat → Prop} {w w2 : Wd} {R : Nat} {ft : Nat → Nat → Bool} (h : wysM w R ft) (f : Fm q w w2) (hq : ∀ a k, q a k → a ≠ 114 ∧ a ≠ 115) : wysM w2 R ft := fun k r hk hr => by
  rw [(f 114 _ (fun x => (hq _ _ x).1 rfl)).1, (f 115 _ (fun x => (hq _ _ x).2 rfl)).1]; exact h k r hk hr
theorem Tm_wys {a k : Nat} (h : Tm a k) : a ≠ 114 ∧ a ≠ 115 := by unfold Tm at h; omega
theorem m_rangIn {F : Nat} (hF : 100 ≤ F) {w : Wd} {R : Nat} (hR : R ≤ 8) (eR : gI w 88 3 = nI R) {ft : Nat → Nat → Bool} (hfb : fbnd ft R) (h : wysM w R ft) (k : Nat) (hk : k < 6) : P_X11_rangIn F w (nI k) = some (posT ft k, w) := by
  unfold P_X11_rangIn
  obtain ⟨w2, e1, e2⟩ := lpG (fun n w (s : Int32) i => L_X11_rangIn_4 F (nI k) (fun w x4 => some (x4, w)) n w s i) (fun w s => some (s, w)) (fun r x => x ||| (if posB ft k r then bit1 r else 0)) (fun u _ _ => u = w) R
    (fun n u s hI => by
      subst hI
      show L_X11_rangIn_4 F (nI k) _ (n + 1) u _ _ = _
      rw [L_X11_rangIn_4, eR, if_pos (Int32.le_refl _)])
    (fun n u s r hr hI => by
      subst hI
      show ∃ w2, L_X11_rangIn_4 F (nI k) _ (n + 1) u _ _ = L_X11_rangIn_4 F (nI k) _ n w2 _ _ ∧ _
      rw [L_X11_rangIn_4, eR, if_neg (nI_ge hr (by omega)), show 8 * nI k + nI r = nI (8 * k + r) from by rw [show (8 : Int32) = nI 8 from rfl, pk_mul, nI_add], gd_t (inB_n (show 8 * k + r < 48 by omega) (by omega)), nI_clamp (by omega), (h k r hk hr).2, lt_v, lt_v, lt_v, nI_1]
      refine ⟨u, ?_, rfl⟩
      cases posB ft k r <;> rfl)
    R 0 (by omega) F (by omega) w 0 rfl
  subst e2
  refine (show L_X11_rangIn_4 F (nI k) _ F w2 0 0 = _ from e1).trans ?_
  rw [orF, zor]
  unfold posT
  rw [orR_upto (g := fun r => if posB ft k r then bit1 r else 0) hR (fun _ _ => rfl) (fun i hi _ => by
    have : posB ft k i = false := by unfold posB; rw [Vw_0 hfb k i hi]; rfl
    rw [this]; rfl)]
theorem v_X11_rang {F : Nat} (hF : 2000 ≤ F) {w : Wd} {T : Tw} {b : Bl} {R p N : Nat} (g : MG w T b R p N) {c : Nat} {f : Nf} (hn : NtM w c f) (hok : okNf c f) (x : Int32) : AskM (P_X11_rang F w x) (qRang (ftT T b R c f) x) w := by
  have hR := g.1.1
  unfold P_X11_rang qRang
  rw [lt_v, in_r F _ x 0 5]
  refine askM_r fm_t0 (fun h1 h2 => ?_)
  obtain ⟨k, hk1, hk2, rfl⟩ := rng h1 h2 (A := 0) (B := 5)
  rw [nI_clamp (by omega)]
  obtain ⟨w1, a1, a2, a3⟩ := m_lays hF g fm_t0 hn hok
  have hfb := ftT_b T b R c f
  generalize ftT T b R c f = ft at *
  have e1 : Fm Tm w1 (sI w1 88 1 0) := Fm.rfl'.sI (.inl ⟨rfl, rfl⟩)
  have er : ∀ u, Fm Tm w1 u → P_X11_rangIn F u (nI k) = some (posT ft k, u) := fun u hu => m_rangIn (by omega) hR (MG_QM g ((a2.imp (fun _ _ h => QN_QM h)).tr (hu.imp (fun _ _ h => Tm_QM h)))).2.1.1 hfb (wysM_fr a3 hu (fun _ _ h => Tm_wys h)) k (by omega)
  rw [bnv_r a1, lt_v, bnd_r (er _ e1), bnd_r (v_bc F _ _)]
  exact am_1 a2 _ _ (fun u f1 f2 => by rw [bnd_r (er u f1)]; exact am_t a2 f1 f2)
theorem v_X11_ask {F : Nat} (hF : 2000 ≤ F) {w : Wd} {T : Tw} {b : Bl} {R p N : Nat} (g : MG w T b R p N) {c : Nat} {f : Nf} (hn : NtM w c f) (hok : okNf c f) : AskM (P_X11_ask F w) (qAsk (ftT T b R c f)) w := by
  have hR := g.1.1
  obtain ⟨w1, a1, a2, a3⟩ := m_lays hF g fm_t0 hn hok
  have hfb := ftT_b T b R c f
  generalize ftT T b R c f = ft at *
  have eR := (MG_QN g a2).2.1.1
  unfold P_X11_ask qAsk
  rw [lt_v, bnv_r a1]
  obtain ⟨w2, e1, e2, e3⟩ := lpG (fun n w (o : Ak) i => L_X11_ask_16 F (fun w x6 x7 => (if (0 : Int32) ≤ x6 then lt (sI w 88 1 0) (fun w19 => bnv (P_X11_enters F w19 (Int32.toInt64 x7)) (fun w20 => some (x6, w20))) else some ((-2), w))) n w (akB o) (nI (akM o)) i) (fun w o => (if (0 : Int32) ≤ akB o then lt (sI w 88 1 0) (fun w19 => bnv (P_X11_enters F w19 (Int32.toInt64 (nI (akM o)))) (fun w20 => some (akB o, w20))) else some ((-2), w))) (akp ft) (fun u o _ => u = w1 ∧ akO o) 6
    (fun n u o hI => by
      show L_X11_ask_16 F _ (n + 1) u _ _ _ = _
      rw [L_X11_ask_16, if_pos (show (6 : Int32) ≤ nI 6 from Int32.le_refl _)])
    (fun n u o k hk hI => by
      obtain ⟨rfl, h2⟩ := hI
      show ∃ w2, L_X11_ask_16 F _ (n + 1) u _ _ _ = L_X11_ask_16 F _ n w2 _ _ _ ∧ _
      obtain ⟨p1, p2⟩ := pos_e ft k
      have p3 := pc_le p2
      have p4 := akM_le h2
      rw [L_X11_ask_16, if_neg (show ¬ (6 : Int32) ≤ nI k from nI_ge (a := k) (b := 6) (by omega) (by decide)), bnd_r (m_rangIn (by omega) hR eR hfb a3 k hk), bnd_r (v_bc F u _), p1, bc_pc p2, lt_v, lt_v, lt_v, nI_1]
      refine ⟨u, ?_, rfl, akp_ok hk h2⟩
      unfold akp
      by_cases c1 : pc (posN ft k) ≤ akM o
      · rw [if_pos (nI_le c1 (by omega)), if_pos c1, maxI_l (nI_le c1 (by omega))]
      · rw [if_neg (nI_ge (by omega) (by omega)), if_neg c1, maxI_r (nI_ge (by omega) (by omega))]; rfl)
    6 0 (by omega) F (by omega) w1 none ⟨rfl, fun q hq => by cases hq⟩
  subst e2
  rw [show L_X11_ask_16 F _ F w2 (-2) 0 0 = _ from e1]
  generalize foldU (akp ft) 6 0 none = o at *
  cases o with
  | none =>
    rw [if_neg (show ¬ (0 : Int32) ≤ akB none from (by decide : ¬ (0 : Int32) ≤ -2))]
    exact am_n a2
  | some q =>
    have hq := (e3 q rfl).2
    rw [if_pos (show (0 : Int32) ≤ akB (some q) from nI_pos' (by omega)), lt_v]
    exact am_1 a2 _ _ (fun u f1 f2 => am_t a2 f1 f2)
-- rows told by the model: where there is one, it is found
theorem ls_found {ft : Nat → Nat → Bool} {k : Nat} {last : Int32} : ∀ m j, j + m ≤ 8 → (∃ o, j ≤ o ∧ o < j + m ∧ ¬ nI o = last ∧ 0 < Ww ft (5 - k) o) → ∃ r, foldX (lsX ft k last) m j () = .inl r ∧ j ≤ r ∧ r < j + m ∧ ¬ nI r = last ∧ 0 < Ww ft (5 - k) r ∧ ∀ i, j ≤ i → i < r → (nI i = last ∨ Ww ft (5 - k) i = 0) := by
  intro m
  induction m with
  | zero => intro j _ ⟨o, h1, h2, _⟩; omega
  | succ m ih =>
    intro j hj ⟨o, h1, h2, h3, h4⟩
    rw [foldX]
    unfold lsX
    by_cases c1 : nI j = last
    · simp only [if_pos c1]
      obtain ⟨r, a1, a2, a3, a4, a5, a6⟩ := ih (j + 1) (by omega) ⟨o, by
        by_cases e : o = j
        · subst e; exact absurd c1 h3
        · omega, by omega, h3, h4⟩
      exact ⟨r, a1, by omega, by omega, a4, a5, fun i h5 h6 => by
        by_cases e : i = j
        · subst e; exact .inl c1
        · exact a6 i (by omega) h6⟩
    · simp only [if_neg c1]
      by_cases c2 : Ww ft (5 - k) j = 0
      · simp only [if_pos c2]
        obtain ⟨r, a1, a2, a3, a4, a5, a6⟩ := ih (j + 1) (by omega) ⟨o, by
          by_cases e : o = j
          · subst e; omega
          · omega, by omega, h3, h4⟩
        exact ⟨r, a1, by omega, by omega, a4, a5, fun i h5 h6 => by
          by_cases e : i = j
          · subst e; exact .inr c2
          · exact a6 i (by omega) h6⟩
      · simp only [if_neg c2]
        exact ⟨j, rfl, Nat.le_refl _, by omega, c1, by omega, fun i h5 h6 => by omega⟩
/-- the chain never breaks -/
theorem rw_chain {ft : Nat → Nat → Bool} (h0 : ¬ ttl ft = 0) : ∀ k, k < 6 → ∃ r, lsT ft k (rwV ft k) = .inl r ∧ r < 8 ∧ ¬ nI r = rwV ft k ∧ 0 < Ww ft (5 - k) r ∧ ∀ i, i < r → (nI i = rwV ft k ∨ Ww ft (5 - k) i = 0) := by
  intro k
  induction k with
  | zero =>
    intro _
    have : ∃ o, o < 8 ∧ 0 < Ww ft 5 o := by
      apply Classical.byContradiction
      intro hn
      apply h0
      unfold ttl
      exact sumN_0 8 0 (fun i _ hi => by
        rcases Nat.eq_zero_or_pos (Ww ft 5 i) with q | q
        · exact q
        · exact absurd ⟨i, by omega, q⟩ hn)
    obtain ⟨o, o1, o2⟩ := this
    obtain ⟨r, a1, a2, a3, a4, a5, a6⟩ := ls_found (ft := ft) (k := 0) (last := rwV ft 0) 8 0 (by omega) ⟨o, by omega, by omega, (fun e => by
      have h := nI_pos (n := o) (by omega)
      rw [e] at h
      exact h (show (-1 : Int32) < 0 by decide)), o2⟩
    exact ⟨r, a1, by omega, a4, a5, fun i hi => a6 i (Nat.zero_le _) hi⟩
  | succ k ih =>
    intro hk
    obtain ⟨r, a1, a2, a3, a4, a5⟩ := ih (by omega)
    have e : rwV ft (k + 1) = nI r := by show lsV (lsT ft k (rwV ft k)) = _; rw [a1]; rfl
    have hW : Ww ft (5 - k) r = b01 (ft (4 - (5 - (k + 1))) r) * oth (Ww ft (5 - (k + 1))) r := by
      rw [show 5 - k = 5 - (k + 1) + 1 by omega]; rfl
    rw [hW] at a4
    obtain ⟨o, o1, o2, o3⟩ := (oth_pos a2).mp (b01_pos.mp a4).2
    obtain ⟨q, b1, b2, b3, b4, b5, b6⟩ := ls_found (ft := ft) (k := k + 1) (last := rwV ft (k + 1)) 8 0 (by omega) ⟨o, by omega, by omega, by rw [e]; exact fun h => o2 ((nI_eq (by omega) (by omega)).mp h), o3⟩
    exact ⟨q, b1, by omega, b4, b5, fun i hi => b6 i (Nat.zero_le _) hi⟩
theorem v_X11_rows {F : Nat} (hF : 2000 ≤ F) {w : Wd} {T : Tw} {b : Bl} {R p N : Nat} (g : MG w T b R p N) {c : Nat} {f : Nf} (hn : NtM w c f) (hok : okNf c f) : AskM (P_X11_rows F w) (qRows (ftT T b R c f)) w := by
  have hR := g.1.1
  obtain ⟨w1, a1, a2, a3⟩ := m_lays hF g fm_t0 hn hok
  have hfb := ftT_b T b R c f
  generalize ftT T b R c f = ft at *
  have eR := (MG_QN g a2).2.1.1
  unfold P_X11_rows qRows
  rw [lt_v, bnv_r a1]
  have key1 : ∀ (kk : Wd → Int32 → Option (Int32 × Wd)) m j, j + m = R → ∀ n, m < n → ∀ x : Nat, L_X11_rows_13 F kk n w1 (nI x) (nI j) = kk w1 (nI (x + sumN (Ww ft 5) j m)) := by
    intro kk m
    induction m with
    | zero =>
      intro j hj n hn x
      obtain ⟨n, rfl⟩ : ∃ q, n = q + 1 := ⟨n - 1, by omega⟩
      obtain rfl : j = R := by omega
      rw [L_X11_rows_13, eR, if_pos (Int32.le_refl _)]
      rfl
    | succ m ih =>
      intro j hj n hn x
      obtain ⟨n, rfl⟩ : ∃ q, n = q + 1 := ⟨n - 1, by omega⟩
      have h114 : gI w1 114 j = nI (Ww ft 5 j) := by have := (a3 0 j (by decide) (by omega)).1; rw [Nat.mul_zero, Nat.zero_add] at this; exact this
      rw [L_X11_rows_13, eR, if_neg (nI_ge (by omega) (by omega)), gd_t (inB_n (show j < 48 by omega) (by omega)), nI_clamp (by omega), h114, lt_v, lt_v, nI_add, nI_1, ih (j + 1) (by omega) n (by omega), Nat.add_assoc]
      rfl
  have et : sumN (Ww ft 5) 0 R = ttl ft := by
    unfold ttl
    rw [show (8 : Nat) = R + (8 - R) by omega, sumN_split, sumN_0 (8 - R) (0 + R) (fun i h1 _ => Ww_0 hfb 5 i (by omega)), Nat.add_zero]
  rw [show L_X11_rows_13 F _ F w1 0 0 = _ from key1 _ R 0 (by omega) F (by omega) 0, Nat.zero_add, et, lt_v]
  have hpos : ∀ (h0 : ¬ ttl ft = 0), ¬ nI (ttl ft) ≤ 0 := fun h0 q => h0 ((nI_le0 (ttl_lt ft)).mp q)
  have fin : ∀ L, ∀ v, Fm Tm w1 v → TlM v L → AskM (some (nI (ttl ft), v)) (nI (ttl ft), some L) w := fun L v h1 h2 => am_t a2 h1 h2
  have t0 : Fm Tm w1 (sI w1 88 1 0) := Fm.rfl'.sI (.inl ⟨rfl, rfl⟩)
  by_cases c0 : ttl ft = 0
  · rw [if_pos c0]
    obtain ⟨F', rfl⟩ : ∃ q, F = q + 1 := ⟨F - 1, by omega⟩
    rw [L_X11_rows_45, if_neg (show ¬ (6 : Int32) ≤ 0 by decide), if_pos ((nI_le0 (ttl_lt ft)).mpr c0)]
    exact fin [] _ t0 tlM_0
  · rw [if_neg c0]
    have key2 : ∀ m j, j + m = 6 → ∀ n, m < n → ∀ v, Fm Tm w1 v → TlM v (rwL ft j) → ∃ v2, L_X11_rows_45 F (nI (ttl ft)) (fun w  => some (nI (ttl ft), w)) n v (rwV ft j) (nI j) = some (nI (ttl ft), v2) ∧ Fm Tm w1 v2 ∧ TlM v2 (rwL ft 6) := by
      intro m
      induction m with
      | zero =>
        intro j hj n hn v h1 h2
        obtain ⟨n, rfl⟩ : ∃ q, n = q + 1 := ⟨n - 1, by omega⟩
        obtain rfl : j = 6 := by omega
        rw [L_X11_rows_45, if_pos (show (6 : Int32) ≤ nI 6 from Int32.le_refl _)]
        exact ⟨v, rfl, h1, h2⟩
      | succ m ih =>
        intro j hj n hn v h1 h2
        obtain ⟨n, rfl⟩ : ∃ q, n = q + 1 := ⟨n - 1, by omega⟩
        obtain ⟨r, b1, b2, b3, b4, b5⟩ := rw_chain c0 j (by omega)
        have hrR : r < R := by
          rcases Nat.lt_or_ge r R with q | q
          · exact q
          · rw [Ww_0 hfb _ r q] at b4; exact absurd b4 (Nat.lt_irrefl _)
        have hv := wysM_fr a3 h1 (fun _ _ h => Tm_wys h)
        have key3 : ∀ (kk : Wd → Int32 → Option (Int32 × Wd)) m2 i, i + m2 = r → ∀ n2, m2 < n2 → L_X11_rows_58 F (nI (ttl ft)) (rwV ft j) (nI j) kk n2 v (nI i) = kk v (nI r) := by
          intro kk m2
          induction m2 with
          | zero =>
            intro i hi n2 hn2
            obtain ⟨n2, rfl⟩ : ∃ q, n2 = q + 1 := ⟨n2 - 1, by omega⟩
            obtain rfl : i = r := by omega
            rw [L_X11_rows_58, if_neg b3, show 8 * nI j + nI i = nI (8 * j + i) from by rw [show (8 : Int32) = nI 8 from rfl, pk_mul, nI_add], gd_t (inB_n (show 8 * j + i < 48 by omega) (by omega)), nI_clamp (by omega), (hv j i (by omega) hrR).1, if_neg (nI_ne0 b4 (W31 ft (by omega) i))]
          | succ m2 ih2 =>
            intro i hi n2 hn2
            obtain ⟨n2, rfl⟩ : ∃ q, n2 = q + 1 := ⟨n2 - 1, by omega⟩
            rw [L_X11_rows_58]
            unfold K_X11_rows_79
            by_cases c1 : nI i = rwV ft j
            · rw [if_pos c1, lt_v, nI_1]; exact ih2 (i + 1) (by omega) n2 (by omega)
            · rcases b5 i (by omega) with q | q
              · exact absurd q c1
              · rw [if_neg c1, show 8 * nI j + nI i = nI (8 * j + i) from by rw [show (8 : Int32) = nI 8 from rfl, pk_mul, nI_add], gd_t (inB_n (show 8 * j + i < 48 by omega) (by omega)), nI_clamp (by omega), (hv j i (by omega) (by omega)).1, q, if_pos (show nI 0 = 0 from rfl), lt_v, nI_1]; exact ih2 (i + 1) (by omega) n2 (by omega)
        rw [L_X11_rows_45, if_neg (show ¬ (6 : Int32) ≤ nI j from nI_ge (a := j) (b := 6) (by omega) (by decide)), if_neg (hpos c0)]
        rw [show L_X11_rows_58 F (nI (ttl ft)) (rwV ft j) (nI j) _ F v 0 = _ from key3 _ r 0 (by omega) F (by omega)]
        have e : rwV ft (j + 1) = nI r := by show lsV (lsT ft j (rwV ft j)) = _; rw [b1]; rfl
        obtain ⟨v2, d1, d2, d3⟩ := v_X11_enters F h2 (by rw [rwL_len]; omega) (i64 (rwV ft (j + 1)))
        rw [e] at d1 d3
        rw [bnv_r (show P_X11_enters F v (Int32.toInt64 (nI r)) = _ from d1), lt_v, nI_1]
        have := ih (j + 1) (by omega) n (by omega) v2 (h1.tr d2) (by show TlM v2 (rwL ft j ++ [i64 (rwV ft (j + 1))]); rw [e]; exact d3)
        rw [e] at this
        exact this
    obtain ⟨v2, e1, e2, e3⟩ := key2 6 0 rfl F (by omega) (sI w1 88 1 0) t0 tlM_0
    rw [show L_X11_rows_45 F (nI (ttl ft)) _ F (sI w1 88 1 0) (-1) 0 = _ from e1]
    exact fin _ v2 e2 e3
-- noted, forget
theorem v_X10_noted {F : Nat} {w : Wd} {c : Nat} {f : Nf} (hn : NtC w c f) (x y z : Int32) : ∃ w2, P_X10_noted F w x y z = some ((if x < 0 ∨ 5 < x ∨ y < -999 ∨ 9999 < y ∨ z < 0 ∨ 1 < z ∨ c = 12 then -1 else nI (c + 1)), w2) ∧ Fr (fun b => 76 ≤ b ∧ b ≤ 79) w w2 ∧ (if x < 0 ∨ 5 < x ∨ y < -999 ∨ 9999 < y ∨ z < 0 ∨ 1 < z ∨ c = 12 then NtC w2 c f else NtC w2 (c + 1) (fun l i => if i = c then (if l = 0 then x else if l = 1 then y else z) else f l i)) := by
  obtain ⟨h1, h2, h3⟩ := hn
  have bad : ∀ hq : (x < 0 ∨ 5 < x ∨ y < -999 ∨ 9999 < y ∨ z < 0 ∨ 1 < z ∨ c = 12), ∃ w2, some ((-1 : Int32), w) = some ((if x < 0 ∨ 5 < x ∨ y < -999 ∨ 9999 < y ∨ z < 0 ∨ 1 < z ∨ c = 12 then -1 else nI (c + 1)), w2) ∧ Fr (fun b => 76 ≤ b ∧ b ≤ 79) w w2 ∧ (if x < 0 ∨ 5 < x ∨ y < -999 ∨ 9999 < y ∨ z < 0 ∨ 1 < z ∨ c = 12 then NtC w2 c f else NtC w2 (c + 1) (fun l i => if i = c then (if l = 0 then x else if l = 1 then y else z) else f l i)) := fun hq => ⟨w, by rw [if_pos hq], Fr.rfl', by rw [if_pos hq]; exact ⟨h1, h2, h3⟩⟩
  have g6 : ∀ {x : Int32}, (6 : Int32) ≤ x ↔ 5 < x := fun {x} => by
    rw [Int32.lt_iff_toInt_lt, Int32.le_iff_toInt_le]
    have e1 : (6 : Int32).toInt = 6 := by decide
    have e2 : (5 : Int32).toInt = 5 := by decide
    omega
  unfold P_X10_noted
  rw [lt_v]
  by_cases c1 : x < 0
  · rw [if_pos c1, if_pos rfl]; exact bad (.inl c1)
  rw [if_neg c1]
  by_cases c2 : (6 : Int32) ≤ x
  · rw [if_pos c2, if_pos rfl]; exact bad (.inr (.inl (g6.mp c2)))
  rw [if_neg c2]
  by_cases c3 : y < -999
  · rw [if_pos c3, if_pos rfl]; exact bad (.inr (.inr (.inl c3)))
  rw [if_neg c3]
  by_cases c4 : 9999 < y
  · rw [if_pos c4, if_pos rfl]; exact bad (.inr (.inr (.inr (.inl c4))))
  rw [if_neg c4]
  by_cases c5 : z < 0
  · rw [if_pos c5, if_pos rfl]; exact bad (.inr (.inr (.inr (.inr (.inl c5)))))
  rw [if_neg c5]
  by_cases c6 : 1 < z
  · rw [if_pos c6, if_pos rfl]; exact bad (.inr (.inr (.inr (.inr (.inr (.inl c6))))))
  rw [if_neg c6, if_neg (by decide)]
  unfold P_X3_note
  rw [h1, if_neg (nI_pos (by omega))]
  by_cases c7 : c = 12
  · subst c7
    rw [if_neg (show ¬ nI 12 < 12 by decide), bnd_s]; exact bad (.inr (.inr (.inr (.inr (.inr (.inr rfl))))))
  · have hno : ¬ (x < 0 ∨ 5 < x ∨ y < -999 ∨ 9999 < y ∨ z < 0 ∨ 1 < z ∨ c = 12) := by
      rintro (h | h | h | h | h | h | h)
      · exact c1 h
      · exact c2 (g6.mpr h)
      · exact c3 h
      · exact c4 h
      · exact c5 h
      · exact c6 h
      · exact c7 h
    have e1 : gI (sI w 77 c x) 76 3 = nI c := by rw [gIa (by decide)]; exact h1
    have e2 : gI (sI (sI w 77 c x) 78 c y) 76 3 = nI c := by rw [gIa (by decide)]; exact e1
    have e3 : gI (sI (sI (sI w 77 c x) 78 c y) 79 c z) 76 3 = nI c := by rw [gIa (by decide)]; exact e2
    rw [if_pos (show nI c < 12 from nI_lt (a := c) (b := 12) (by omega) (by decide)), gd_t (inB_n (show c < 12 by omega) (by omega)), lt_v, nI_clamp (by omega), e1, gd_t (inB_n (show c < 12 by omega) (by omega)), lt_v, nI_clamp (by omega), e2, gd_t (inB_n (show c < 12 by omega) (by omega)), lt_v, nI_clamp (by omega), e3, lt_v, gIs, nI_1, bnd_s]
    refine ⟨_, by rw [if_neg hno], ((Fr.ofI.imp (fun b h => ?_)).tr ((Fr.ofI.imp (fun b h => ?_)).tr ((Fr.ofI.imp (fun b h => ?_)).tr (Fr.ofI.imp (fun b h => ?_)) (fun _ h => h) (fun _ h => h)) (fun _ h => h) (fun _ h => h)) (fun _ h => h) (fun _ h => h)), ?_⟩
    · omega
    · omega
    · omega
    · omega
    · rw [if_neg hno]
      refine ⟨gIs, by omega, fun i hi => ?_⟩
      by_cases hic : i = c
      · subst hic
        simp only [gI_sI, if_true]
        exact ⟨rfl, rfl, rfl⟩
      · have := h3 i (by omega)
        simp only [if_neg hic]
        rw [gIa (by decide), gIa (by decide), gIa (by decide), gIk hic, gIa (by decide), gIa (by decide), gIk hic, gIa (by decide), gIa (by decide), gIk hic, gIa (by decide), gIa (by decide)]
        exact this
theorem v_X10_forget {F : Nat} {w : Wd} {c : Nat} {f : Nf} (hn : NtC w c f) : ∃ w2, P_X10_forget F w = some (nI c, w2) ∧ Fr (fun b => 76 ≤ b ∧ b ≤ 79) w w2 ∧ NtC w2 0 f := by
  unfold P_X10_forget
  rw [lt_v, lt_v, hn.1]
  exact ⟨_, rfl, Fr.ofI.imp (fun b h => by omega), gIs, by omega, fun i hi => absurd hi (Nat.not_lt_zero _)⟩
theorem v_X11_forget {F : Nat} {w : Wd} {c : Nat} {f : Nf} (hn : NtM w c f) : ∃ w2, P_X11_forget F w = some (nI c, w2) ∧ Fm (fun a k => (a = 88 ∧ (k = 0 ∨ k = 37)) ∨ (111 ≤ a ∧ a ≤ 113)) w w2 ∧ NtM w2 0 f := by
  unfold P_X11_forget
  rw [lt_v, lt_v, lt_v, show gI (sI w 88 0 0) 88 37 = nI c from by rw [gIk (by decide)]; exact hn.1]
  exact ⟨_, rfl, (Fm.rfl'.sI (by omega)).sI (by omega), gIs, by omega, fun i hi => absurd hi (Nat.not_lt_zero _)⟩
