-- ===== change =====
def chX (T : Tw) (n : Int32) (k : Nat) (b : Bl) : Sum Nat Bl := if T 4 4 < b 12 then .inl k else if T 4 4 < b 12 + n then .inr (mi0 T b) else .inl k
def qChange (T : Tw) (b : Bl) (x : Int32) : Ans := qR x 0 30 (match foldX (chX T x) 1000 0 b with
  | .inl k => (nI k, none)
  | .inr _ => (-2, none))
theorem v_X10_change {F : Nat} (hF : 2000 ≤ F) {w : Wd} (s : St w) (x : Int32) : AskC (P_X10_change F w x) (qChange (tC w 5) (bC w 23) x) w := by
  unfold P_X10_change qChange
  refine askC_r (fun h1 h2 => ?_)
  obtain ⟨w0, e0, e1, -⟩ := sim_start (F := F) (by omega) (w := w) (w1 := w) Fr.rfl'
  rw [bnv_r e0]
  have k44 : tC w 5 4 4 = gI w 5 5 := rfl
  rcases lpX (fun m w (_ : Bl) k => L_X10_change_25 F x (fun w  => some ((-2), w)) m w k) (fun w _ => some ((-2), w)) (fun u (o : Nat) => some (nI o, u)) (chX (tC w 5) x) (fun u b _ => Sim w u b) (fun u o => Fr SP w u) 1000
    (fun m u b hI => by
      show L_X10_change_25 F x _ (m + 1) u _ = _
      rw [L_X10_change_25, if_pos (show (999 : Int32) < nI 1000 by decide)])
    (fun m u b k hk hI => by
      show (∃ w2 t, _ ∧ L_X10_change_25 F x _ (m + 1) u _ = L_X10_change_25 F x _ m w2 _ ∧ _) ∨ (∃ w2 o, _ ∧ L_X10_change_25 F x _ (m + 1) u _ = _ ∧ _)
      have k5 : gI u 5 5 = gI w 5 5 := (hI.1 5 (by unfold SP Scr; omega)).1 5
      have k12 : gI u 25 5 = b 12 := by rw [← hI.2]; rfl
      rw [L_X10_change_25, if_neg (show ¬ (999 : Int32) < nI k from nI_nlt (a := 999) (b := k) (by omega) (by decide)), k5, k12]
      unfold chX
      rw [k44]
      by_cases c1 : gI w 5 5 < b 12
      · rw [if_pos c1, if_pos c1]
        exact .inr ⟨u, k, rfl, rfl, hI.1⟩
      · rw [if_neg c1, if_neg c1]
        by_cases c2 : gI w 5 5 < b 12 + x
        · rw [if_pos c2, if_pos c2]
          obtain ⟨u2, q1, q2, -⟩ := sim_ring (F := F) (by omega) 5 s.1 hI
          exact .inl ⟨u2, _, rfl, by rw [bnd_r q1, lt_v, nI_1], q2⟩
        · rw [if_neg c2, if_neg c2]
          exact .inr ⟨u, k, rfl, rfl, hI.1⟩)
    1000 0 (by omega) F (by omega) w0 _ e1 with ⟨w2, t, a1, a2, a3⟩ | ⟨w2, o, a1, a2, a3⟩
  · rw [a1, show L_X10_change_25 F x _ F _ 0 = _ from a2]
    exact ask_n a3.1 (fun b h => SP_n h)
  · rw [a1, show L_X10_change_25 F x _ F _ 0 = _ from a2]
    exact ask_n a3 (fun b h => SP_n h)
/-- with nobody at the rope the silence grows, and it stops once, if at all -/
theorem it_0 (T : Tw) (m : Nat) (hm : m ≤ 9) (em : T 4 4 = nI m) : ∀ n (b : Bl) (s : Nat), s + n < 2 ^ 30 → b 8 = 0 → b 12 = nI s → itM T n b 13 = if s ≤ m ∧ m < s + n then b 13 + 1 else b 13 := by
  intro n
  induction n with
  | zero => intro b s _ _ _; show b 13 = _; rw [if_neg (by omega)]
  | succ n ih =>
    intro b s hs h8 h12
    have hl : loudT T b (b 8) ≤ 0 := by
      have : loudT T b (b 8) = 0 := by unfold loudT; rw [if_pos h8]
      rw [this]; exact Int32.le_refl _
    have a8 : mi T b 8 = 0 := by rw [mi_e (by decide)]; exact h8
    have a12 : mi T b 12 = nI (s + 1) := by rw [mi_e (by decide), mi0_12, if_pos hl, h12, nI_1]
    have a13 : mi T b 13 = if s = m then b 13 + 1 else b 13 := by
      rw [mi_e (by decide), mi0_13, if_pos hl, h12, em, nI_1, nI_1]
      by_cases hq : s = m
      · rw [if_pos (by rw [hq]), if_pos hq]
      · rw [if_neg (fun e => hq (by have := (nI_eq (a := s + 1) (b := m + 1) (by omega) (by omega)).mp e; omega)), if_neg hq]
    show itM T n (mi T b) 13 = _
    rw [ih (mi T b) (s + 1) (by omega) a8 a12, a13]
    by_cases hq : s = m
    · rw [if_pos hq, if_neg (by omega), if_pos (by omega)]
    · rw [if_neg hq]
      by_cases hq2 : s + 1 ≤ m ∧ m < s + 1 + n
      · rw [if_pos hq2, if_pos (by omega)]
      · rw [if_neg hq2, if_neg (by omega)]
theorem add1_ne (x : Int32) : ¬ x + 1 = x := by
  intro h
  have := congrArg (fun y => y - x) h
  simp only [Int32.sub_self] at this
  rw [Int32.add_comm, Int32.add_sub_cancel] at this
  exact absurd this (by decide)
theorem mi_12N {T : Tw} {b : Bl} {s : Nat} (h : b 12 = nI s) : ∃ t, t ≤ s + 1 ∧ mi T b 12 = nI t := by
  rw [mi_e (by decide), mi0_12, h]
  split
  · exact ⟨s + 1, Nat.le_refl _, nI_1 _⟩
  · exact ⟨0, by omega, rfl⟩
/-- copying a row of the model's -/
theorem l_X11_change21 (F : Nat) (x : Int32) (kk : Wd → Option (Int32 × Wd)) : ∀ m j, j + m = 16 → ∀ n, m < n → ∀ w, ∃ w2, L_X11_change_21 F x kk n w (nI j) = kk w2 ∧ Fm (Mn 109) w w2 ∧ ∀ k, k < 16 → gI w2 109 k = if j ≤ k then gI w 95 k else gI w 109 k := by
  intro m
  induction m with
  | zero =>
    intro j hj n hn w
    obtain ⟨n, rfl⟩ : ∃ q, n = q + 1 := ⟨n - 1, by omega⟩
    rw [L_X11_change_21, if_pos (show (16 : Int32) ≤ nI j from nI_le (a := 16) (b := j) (by omega) (by omega))]
    exact ⟨w, rfl, Fm.rfl', fun k _ => by rw [if_neg (by omega)]⟩
  | succ m ih =>
    intro j hj n hn w
    obtain ⟨n, rfl⟩ : ∃ q, n = q + 1 := ⟨n - 1, by omega⟩
    rw [L_X11_change_21, if_neg (show ¬ (16 : Int32) ≤ nI j from nI_ge (a := j) (b := 16) (by omega) (by decide)), gd_t (inB_n (show j < 16 by omega) (by omega)), gd_t (inB_n (show j < 16 by omega) (by omega)), lt_v, lt_v, nI_1, nI_clamp (by omega)]
    obtain ⟨w2, e1, e2, e3⟩ := ih (j + 1) (by omega) n (by omega) (sI w 109 j (gI w 95 j))
    refine ⟨w2, e1, (show Fm (Mn 109) w _ from Fm.rfl'.sI (.inl rfl)).tr e2, fun k hk => ?_⟩
    rw [e3 k hk, gIa (show (95 : Nat) ≠ 109 by decide)]
    by_cases hkj : k = j
    · subst hkj; rw [if_neg (by omega), gIs, if_pos (Nat.le_refl _)]
    · rw [gIk hkj]
      by_cases hq : j + 1 ≤ k
      · rw [if_pos hq, if_pos (by omega)]
      · rw [if_neg hq, if_neg (by omega)]
theorem l_X11_change56 (F : Nat) (x y : Int32) (kk : Wd → Option (Int32 × Wd)) : ∀ m j, j + m = 16 → ∀ n, m < n → ∀ w, ∃ w2, L_X11_change_56 F x y kk n w (nI j) = kk w2 ∧ Fm (Mn 96) w w2 ∧ ∀ k, k < 16 → gI w2 96 k = if j ≤ k then gI w 109 k else gI w 96 k := by
  intro m
  induction m with
  | zero =>
    intro j hj n hn w
    obtain ⟨n, rfl⟩ : ∃ q, n = q + 1 := ⟨n - 1, by omega⟩
    rw [L_X11_change_56, if_pos (show (16 : Int32) ≤ nI j from nI_le (a := 16) (b := j) (by omega) (by omega))]
    exact ⟨w, rfl, Fm.rfl', fun k _ => by rw [if_neg (by omega)]⟩
  | succ m ih =>
    intro j hj n hn w
    obtain ⟨n, rfl⟩ : ∃ q, n = q + 1 := ⟨n - 1, by omega⟩
    rw [L_X11_change_56, if_neg (show ¬ (16 : Int32) ≤ nI j from nI_ge (a := j) (b := 16) (by omega) (by decide)), gd_t (inB_n (show j < 16 by omega) (by omega)), gd_t (inB_n (show j < 16 by omega) (by omega)), lt_v, lt_v, nI_1, nI_clamp (by omega)]
    obtain ⟨w2, e1, e2, e3⟩ := ih (j + 1) (by omega) n (by omega) (sI w 96 j (gI w 109 j))
    refine ⟨w2, e1, (show Fm (Mn 96) w _ from Fm.rfl'.sI (.inl rfl)).tr e2, fun k hk => ?_⟩
    rw [e3 k hk, gIa (show (109 : Nat) ≠ 96 by decide)]
    by_cases hkj : k = j
    · subst hkj; rw [if_neg (by omega), gIs, if_pos (Nat.le_refl _)]
    · rw [gIk hkj]
      by_cases hq : j + 1 ≤ k
      · rw [if_pos hq, if_pos (by omega)]
      · rw [if_neg hq, if_neg (by omega)]
theorem v_X11_change {F : Nat} (hF : 2000 ≤ F) {w : Wd} {T : Tw} {c : Bl} {r p N : Nat} (g : MG w T c r p N) {s : Nat} (hs : s < 2 ^ 29) (es : c 12 = nI s) (x : Int32) : AskM (P_X11_change F w x) (qChange T c x) w := by
  have hr := g.1.1
  obtain ⟨m0, hm0, em0⟩ := g.1.2.2.2.2.2.2.2.2.2.2
  unfold P_X11_change qChange
  rw [lt_v, in_r F _ x 0 30]
  refine askM_r fm_t0 (fun h1 h2 => ?_)
  obtain ⟨n, hn1, hn2, rfl⟩ := rng h1 h2 (A := 0) (B := 30)
  obtain ⟨w1, e1, e2, e3⟩ := l_X11_change21 F (nI n) (fun w  => L_X11_change_47 F (nI n) (fun w  => some ((-2), w)) F w 0) 16 0 rfl F (by omega) (sI w 88 0 0)
  rw [show L_X11_change_21 F (nI n) _ F (sI w 88 0 0) 0 = _ from e1]
  have f1 : Fm QN w w1 := fm_t0.tr (e2.imp (fun _ _ h => Mn_QN2 h))
  have r1 : rM w1 109 = c := by
    rw [← g.2.2.1]
    exact rM_ext (fun k hk => by rw [e3 k hk, if_pos (Nat.zero_le _), gIa (by decide)])
  rcases lpX (fun m w (_ : Bl) k => L_X11_change_47 F (nI n) (fun w  => some ((-2), w)) m w k) (fun w _ => some ((-2), w)) (fun u (o : Nat) => some (nI o, u)) (chX T (nI n)) (fun u b k => Fm QN w u ∧ eq15 b (rM u 109) ∧ zB b r ∧ ∃ t, t ≤ s + k ∧ b 12 = nI t) (fun u o => Fm QN w u) 1000
    (fun m u b hI => by
      show L_X11_change_47 F (nI n) _ (m + 1) u _ = _
      rw [L_X11_change_47, if_pos (show (999 : Int32) < nI 1000 by decide)])
    (fun m u b k hk hI => by
      obtain ⟨hI1, hI2, hI3, t, ht, et⟩ := hI
      show (∃ w2 t, _ ∧ L_X11_change_47 F (nI n) _ (m + 1) u _ = L_X11_change_47 F (nI n) _ m w2 _ ∧ _) ∨ (∃ w2 o, _ ∧ L_X11_change_47 F (nI n) _ (m + 1) u _ = _ ∧ _)
      rw [L_X11_change_47, if_neg (show ¬ (999 : Int32) < nI k from nI_nlt (a := 999) (b := k) (by omega) (by decide))]
      obtain ⟨u1, d1, d2, d3⟩ := l_X11_change56 F (nI n) (nI k) (fun w  => gd (inB 8 16) (lt (sI w 96 8 0) (fun w22 => bnd (P_X11_goesOn F w22 96 (nI n)) (fun x24 w23 => gd (inB 13 16) (gd (inB 13 16) ((if (gI w23 96 13) = (gI w23 109 13) then some (nI k, w23) else bnd (P_X11_minuteGoes F w23 109) (fun x29 w28 => lt (nI k + 1 : Int32) (fun x30 => L_X11_change_47 F (nI n) (fun w  => some ((-2), w)) m w28 x30))))))))) 16 0 rfl F (by omega) u
      rw [show L_X11_change_56 F (nI n) (nI k) _ F u 0 = _ from d1]
      simp only [gd1, GL]
      rw [lt_v]
      have h109 : rM u1 109 = rM u 109 := rM_fr d2 (fun k _ h => by unfold Mn at h; omega)
      have h96 : rM u1 96 = rM u 109 := rM_ext (fun k hk => by rw [d3 k hk, if_pos (Nat.zero_le _)])
      have hms : MS w u1 (rM u 109) := ⟨hI1.tr (d2.imp (fun _ _ h => Mn_QN h)), h96⟩
      have hms0 := ms_rope hms 0
      have z0 : zB (rM u 109) r := zB_ext (fun k hk => hI2 k (by omega)) hI3
      have z1 : zB (setR (rM u 109) 0) r := zB_set (s := 0) hr z0 (by have := pow8 hr; omega)
      obtain ⟨u2, q1, q2, q3, q4⟩ := ms_goesOn hF g.1 (a := 96) (.inr (.inl rfl)) (MG_QN g hms0.1).2.1 (by rw [hms0.2]; exact z1) n (by omega)
      rw [hms0.2] at q3
      rw [bnd_r q1]
      have f2 : Fm QN w u2 := hms0.1.tr (q2.imp (fun _ _ h => Mn_QN h))
      have k109 : ∀ k, k < 16 → gI u2 109 k = rM u 109 k := fun k hk => by
        rw [(q2 109 k (by unfold Mn; omega)).1, gIa (by decide), ← rM_k (w := u1) (a := 109) hk, h109]
      have hb13 : gI u2 96 13 = if t ≤ m0 ∧ m0 < t + n then b 13 + 1 else b 13 := by
        rw [← rM_k (w := u2) (a := 96) (show 13 < 16 by decide), q3, it_0 T m0 hm0 em0 n _ t (by omega) rfl (by show rM u 109 12 = _; rw [hI2 12 (by decide)]; exact et)]
        show (if t ≤ m0 ∧ m0 < t + n then rM u 109 13 + 1 else rM u 109 13) = _
        rw [hI2 13 (by decide)]
      rw [hb13, k109 13 (by decide), hI2 13 (by decide)]
      unfold chX
      rw [em0, et, nI_add]
      have l1 : nI m0 < nI t ↔ m0 < t := nI_ltI (by omega) (by omega)
      have l2 : nI m0 < nI (t + n) ↔ m0 < t + n := nI_ltI (by omega) (by omega)
      by_cases c1 : m0 < t
      · rw [if_neg (show ¬ (t ≤ m0 ∧ m0 < t + n) by omega), if_pos rfl, if_pos (l1.mpr c1)]
        exact .inr ⟨u2, k, rfl, rfl, f2⟩
      · rw [if_neg (fun h => c1 (l1.mp h))]
        by_cases c2 : m0 < t + n
        · rw [if_pos (show t ≤ m0 ∧ m0 < t + n by omega), if_neg (add1_ne _), if_pos (l2.mpr c2)]
          have e109 : rM u2 109 = rM u 109 := by
            funext k
            by_cases hk : k < 16
            · rw [rM_k hk, k109 k hk]
            · unfold rM; rw [if_neg hk, if_neg hk]
          obtain ⟨u3, p1, p2, p3⟩ := v_X11_minuteGoes (F := F) (by omega) g.1 (MG_QN g f2).2.1 (a := 109) (.inr (.inr rfl)) (by rw [e109]; exact z0)
          rw [e109] at p3
          have h15 : eq15 (mi0 T b) (rM u3 109) := by rw [p3]; exact mi_15 hI2
          obtain ⟨t2, ht2, et2⟩ := mi_12N (T := T) et
          refine .inl ⟨u3, _, rfl, by rw [bnd_r p1, lt_v, nI_1], f2.tr (p2.imp (fun _ _ h => Mn_QN2 h)), h15, zB_mi0 hI3, t2, by omega, by rw [← mi_e (by decide)]; exact et2⟩
        · rw [if_neg (show ¬ (t ≤ m0 ∧ m0 < t + n) by omega), if_pos rfl, if_neg (fun h => c2 (l2.mp h))]
          exact .inr ⟨u2, k, rfl, rfl, f2⟩)
    1000 0 (by omega) F (by omega) w1 c ⟨f1, by rw [r1]; exact eq15_rfl c, g.2.2.2, s, by omega, es⟩ with ⟨w2, t, a1, a2, a3⟩ | ⟨w2, o, a1, a2, a3⟩
  · rw [a1, show L_X11_change_47 F (nI n) _ F w1 0 = _ from a2]
    exact am_n a3.1
  · rw [a1, show L_X11_change_47 F (nI n) _ F w1 0 = _ from a2]
    exact am_n a3
