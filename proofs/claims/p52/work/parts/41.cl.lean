-- ===== the class: rolls, the rule =====
theorem n8le {j : Nat} (h : 8 ≤ j) (hj : j < 2 ^ 31) : (8 : Int32) ≤ nI j := nI_le (a := 8) h hj
theorem n8gt {j : Nat} (h : j < 8) : ¬ (8 : Int32) ≤ nI j := nI_ge (a := j) (b := 8) h (by decide)
theorem lt31 {j : Nat} (h : j < 1000) : j < 2 ^ 31 := Nat.lt_trans h (by decide)
theorem v_X5_hasx (F : Nat) (w : Wd) (a : Nat) (x : Int32) : P_X5_has F w a x = some (if x < 0 then 0 else if gI w a 2 ≤ x then 0 else if (8 : Int32) ≤ x then 0 else 1, w) := by
  unfold P_X5_has lt
  refine gd_t ?_
  split
  · decide
  · split
    · decide
    · exact isZO_i
theorem v_X5_has (F : Nat) (w : Wd) (a i : Nat) (hi : i < 8) : P_X5_has F w a (nI i) = some (if gI w a 2 ≤ nI i then 0 else 1, w) := by
  rw [v_X5_hasx, if_neg (nI_pos (lt31 (by omega))), if_neg (n8gt hi)]
theorem v_X5_firstOf (F : Nat) (w : Wd) (a i : Nat) (hi : i < 8) : P_X5_firstOf F w a (nI i) = some (rol w a (a + 1) i, w) := by
  unfold P_X5_firstOf rol
  rw [bnd_r (v_X5_has F w a i hi)]
  by_cases h : gI w a 2 ≤ nI i
  · rw [if_pos h, if_pos h]; rfl
  · rw [if_neg h, if_neg h, if_neg (by decide), gd_t (inB_n hi (lt31 (by omega))), if_pos hi, nI_clamp (lt31 (by omega))]
theorem v_X5_secondOf (F : Nat) (w : Wd) (a i : Nat) (hi : i < 8) : P_X5_secondOf F w a (nI i) = some (rol w a (a + 2) i, w) := by
  unfold P_X5_secondOf rol
  rw [bnd_r (v_X5_has F w a i hi)]
  by_cases h : gI w a 2 ≤ nI i
  · rw [if_pos h, if_pos h]; rfl
  · rw [if_neg h, if_neg h, if_neg (by decide), gd_t (inB_n hi (lt31 (by omega))), if_pos hi, nI_clamp (lt31 (by omega))]
theorem l_X5_secondsOf (F : Nat) (w : Wd) (a : Nat) (s : Int32) (k : Wd → Int32 → Option (Int32 × Wd)) : ∀ m j, j + m = 8 → ∀ n, m < n → ∀ acc, L_X5_secondsOf_4 F a s k n w acc (nI j) = k w (acc + sumR (fun i => bt s i * rol w a (a + 2) i) j m) := by
  intro m
  induction m with
  | zero =>
    intro j hj n hn acc
    obtain ⟨n, rfl⟩ : ∃ q, n = q + 1 := ⟨n - 1, by omega⟩
    rw [L_X5_secondsOf_4, if_pos (n8le (by omega) (lt31 (by omega)))]
    show k w acc = k w (acc + 0)
    rw [add0]
  | succ m ih =>
    intro j hj n hn acc
    obtain ⟨n, rfl⟩ : ∃ q, n = q + 1 := ⟨n - 1, by omega⟩
    rw [L_X5_secondsOf_4, if_neg (n8gt (by omega)), bnd_r (v_X5_secondOf F w a j (by omega))]
    show L_X5_secondsOf_4 F a s k n w (acc + bt s j * rol w a (a + 2) j) (nI j + 1) = _
    rw [nI_1, ih (j + 1) (by omega) n (by omega), addA]
    rfl
theorem v_X5_secondsOf {F : Nat} (hF : 100 ≤ F) (w : Wd) (a : Nat) (s : Int32) : P_X5_secondsOf F w a s = some (sumR (fun i => bt s i * rol w a (a + 2) i) 0 8, w) := by
  unfold P_X5_secondsOf
  rw [i0, l_X5_secondsOf F w a s _ 8 0 rfl F (by omega)]
  show some (0 + _, w) = _
  rw [zadd]
theorem v_X1_tiredOf (F : Nat) (w : Wd) (a i : Nat) (hi : i < 8) : P_X1_tiredOf F w a (nI i) = some (gI w (a + 1) i, w) := by
  unfold P_X1_tiredOf
  simp only [lt_v, if_neg (nI_pos (lt31 (show i < 1000 by omega))), if_neg (n8gt hi), gd_t (inB_n hi (lt31 (show i < 1000 by omega))), nI_clamp (lt31 (show i < 1000 by omega))]
/-- a word of the class's rule -/
def okc (c : Int32) : Prop := (0 ≤ c ∧ c ≤ 1006) ∨ c = 1136 ∨ c = 1070 ∨ c = 1072 ∨ c = 1071 ∨ c = 1053 ∨ c = 1055 ∨ c = 1052 ∨ c = 1057
theorem v_X2_combine (F : Nat) (w : Wd) {c : Int32} (h : okc c) (h1 : ¬ c < 1010) (h2 : ¬ c = 1136) (x y : Int32) : P_X2_combine F w (c - 1010) x y = some (opv (trc c) x y, w) := by
  rcases h with ⟨_, h⟩ | h | rfl | rfl | rfl | rfl | rfl | rfl | rfl
  · exfalso
    apply h1
    rw [Int32.lt_iff_toInt_lt]
    rw [Int32.le_iff_toInt_le] at h
    have e1 : (1006 : Int32).toInt = 1006 := by decide
    have e2 : (1010 : Int32).toInt = 1010 := by decide
    omega
  · exact absurd h h2
  · rfl
  · rfl
  · rfl
  · rfl
  · rfl
  · rfl
  · show (if y = 0 then some (0, w) else gd (neZ y) (some (x / y, w))) = some (if y = 0 then 0 else x / y, w)
    by_cases hy : y = 0
    · rw [if_pos hy, if_pos hy]
    · rw [if_neg hy, if_neg hy, gd_t (by unfold neZ; rw [decide_eq_false hy]; rfl)]
theorem okc_num {c : Int32} (h : okc c) (h1 : c < 1010) : 0 ≤ c ∧ c ≤ 1006 := by
  rcases h with h | rfl | rfl | rfl | rfl | rfl | rfl | rfl | rfl
  · exact h
  all_goals exact absurd h1 (by decide)
theorem trc_num {c : Int32} (h1 : c < 1010) : trc c = c := by unfold trc; rw [if_pos h1]
theorem num_not {c : Int32} (h : 0 ≤ c ∧ c ≤ 1006) : ¬ c = 3000 ∧ ¬ (2000 : Int32) ≤ c := by
  obtain ⟨h0, h⟩ := h
  rw [Int32.le_iff_toInt_le] at h
  have e1 : (1006 : Int32).toInt = 1006 := by decide
  have e2 : (2000 : Int32).toInt = 2000 := by decide
  have e3 : (3000 : Int32).toInt = 3000 := by decide
  refine ⟨fun e => ?_, fun e => ?_⟩
  · rw [e] at h; omega
  · rw [Int32.le_iff_toInt_le] at e; omega
theorem v_X2_named (F : Nat) (w : Wd) (a : Nat) {c : Int32} (h : 0 ≤ c ∧ c ≤ 1006) : P_X2_named F w a c = some (if 1000 ≤ c then gI w (a + 2) (c - 1000).toNatClampNeg else c, w) := by
  unfold P_X2_named
  rw [lt_v]
  obtain ⟨j, hj, rfl⟩ := nI_of2 (M := 1006) (n := 1006) (by decide) (x := c) (by rw [Int32.not_lt]; exact h.1) h.2
  by_cases hq : j < 1000
  · have h1 : nI j - 1000 < 0 := pk_sneg (b := 1000) (by decide) hq
    have h2 : ¬ (1000 : Int32) ≤ nI j := nI_ge (a := j) (b := 1000) hq (by decide)
    rw [if_pos h1, if_neg h2]
  · have h3 : nI j - 1000 = nI (j - 1000) := pk_sub (a := j) (b := 1000) (by omega)
    have h2 : (1000 : Int32) ≤ nI j := nI_le (a := 1000) (b := j) (by omega) (by omega)
    rw [h3, if_pos h2, if_neg (nI_pos (by omega)), if_neg (show ¬ (7 : Int32) ≤ nI (j - 1000) from nI_ge (a := j - 1000) (b := 7) (by omega) (by decide)), gd_t (inB_n (by omega) (by omega)), nI_clamp (by omega)]
theorem hgt_le (code : Nat → Int32) : ∀ n, hgt code n ≤ n := by
  intro n
  induction n with
  | zero => exact Nat.le_refl _
  | succ n ih =>
    show (if code n = 3000 then hgt code n else if 2000 ≤ code n then hgt code n - 1 else hgt code n + 1) ≤ _
    split
    · omega
    · split <;> omega
theorem runv_h (v code : Nat → Int32) : ∀ n, (runv v code n).2 = hgt code n := by
  intro n
  induction n with
  | zero => rfl
  | succ n ih =>
    show (stpv v (code n) (runv v code n)).2 = (if code n = 3000 then hgt code n else if 2000 ≤ code n then hgt code n - 1 else hgt code n + 1)
    unfold stpv
    split
    · exact ih
    · split
      · show (runv v code n).2 - 1 = _; rw [ih]
      · show (runv v code n).2 + 1 = _; rw [ih]
theorem hgt_s (code : Nat → Int32) (n : Nat) : hgt code (n + 1) = if code n = 3000 then hgt code n else if 2000 ≤ code n then hgt code n - 1 else hgt code n + 1 := rfl
theorem runv_s (v code : Nat → Int32) (n : Nat) : runv v code (n + 1) = stpv v (code n) (runv v code n) := rfl
/-- what the world holds of a rule being worked out, behind so many words -/
def atv (a : Nat) (v code : Nat → Int32) (j : Nat) (w : Wd) : Prop := (∀ k, k < 7 → gI w (a + 2) k = v k) ∧ ∀ p, p < hgt code j → gI w (a + 3) p = (runv v code j).1 p
theorem l_X2_value (F a : Nat) (x2 x3 x4 x5 x6 x7 x8 : Int32) (kk : Wd → Option (Int32 × Wd)) (v : Nat → Int32) (N : Nat) (code : Nat → Int32) (hN : okR code N) : ∀ m j, j + m = N → ∀ n, m < n → ∀ w, gI w a 1 = nI N → (∀ k, k < N → okc (gI w (a + 1) k) ∧ trc (gI w (a + 1) k) = code k) → atv a v code j w →
    ∃ w2, L_X2_value_82 F a x2 x3 x4 x5 x6 x7 x8 kk n w (nI (hgt code j)) (nI j) = kk w2 ∧ Fr (fun b => b = a + 3) w w2 ∧ atv a v code N w2 := by
  intro m
  obtain ⟨hN0, hN1, hN2, hN3⟩ := hN
  induction m with
  | zero =>
    intro j hj n hn w h1 h2 h3
    obtain ⟨n, rfl⟩ : ∃ q, n = q + 1 := ⟨n - 1, by omega⟩
    obtain rfl : j = N := by omega
    rw [L_X2_value_82, h1, if_pos (Int32.le_refl _)]
    exact ⟨w, rfl, Fr.rfl', h3⟩
  | succ m ih =>
    intro j hj n hn w h1 h2 h3
    obtain ⟨n, rfl⟩ : ∃ q, n = q + 1 := ⟨n - 1, by omega⟩
    have hjN : j < N := by omega
    obtain ⟨hc, ht⟩ := h2 j hjN
    have hh := hgt_le code j
    have step : ∀ (p : Nat) (x : Int32), hgt code (j + 1) = p + 1 → (∀ q, q < p + 1 → (runv v code (j + 1)).1 q = if q = p then x else (runv v code j).1 q) → p ≤ hgt code j →
        ∃ w2, K_X2_value_240 F a x2 x3 x4 x5 x6 x7 x8 kk (L_X2_value_82 F a x2 x3 x4 x5 x6 x7 x8 kk n) (sI w (a + 3) p x) (nI j) (nI p) = kk w2 ∧ Fr (fun b => b = a + 3) w w2 ∧ atv a v code N w2 := by
      intro p x hp hr hpj
      have g1 : ∀ b q, ¬ b = a + 3 → gI (sI w (a + 3) p x) b q = gI w b q := fun b q hb => by rw [gI_sI, if_neg hb]
      obtain ⟨w2, e1, e2, e3⟩ := ih (j + 1) (by omega) n (by omega) (sI w (a + 3) p x) (by rw [g1 _ _ (by omega)]; exact h1) (fun k hk => by rw [g1 _ _ (by omega)]; exact h2 k hk) ⟨fun k hk => by rw [g1 _ _ (by omega)]; exact h3.1 k hk, fun q hq => by
        rw [hp] at hq
        rw [gI_sI, if_pos rfl, hr q hq]
        by_cases hqp : q = p
        · rw [if_pos hqp, if_pos hqp]
        · rw [if_neg hqp, if_neg hqp]
          exact h3.2 q (by omega)⟩
      refine ⟨w2, ?_, Fr.ofI.tr e2 (fun _ h => h) (fun _ h => h), e3⟩
      rw [hp] at e1
      show L_X2_value_82 F a x2 x3 x4 x5 x6 x7 x8 kk n _ (nI p + 1) (nI j + 1) = _
      rw [nI_1, nI_1]
      exact e1
    rw [L_X2_value_82, h1, if_neg (nI_ge (by omega) (by omega)), if_neg (show ¬ (40 : Int32) ≤ nI j from nI_ge (a := j) (b := 40) (by omega) (by decide)), gd_t (inB_n (by omega) (by omega)), nI_clamp (by omega)]
    rw [lt_v, lt_v, lt_v]
    have hsz := hN2 j hjN
    have hrun := runv_s v code j
    have hrh := runv_h v code j
    rw [hgt_s] at hsz
    by_cases hlt : gI w (a + 1) j < 1010
    · -- a number, a letter
      have hq := okc_num hc hlt
      have hn2 := num_not hq
      rw [trc_num hlt] at ht
      have hge : ¬ (1010 : Int32) ≤ gI w (a + 1) j := Int32.not_le.mpr hlt
      rw [if_neg hge]
      have hz : nI (hgt code j) - 0 = nI (hgt code j) := Int32.sub_zero _
      rw [hz, if_neg (nI_pos (by omega)), if_pos (show nI (hgt code j) + 1 < 41 from by rw [nI_1]; exact nI_lt (a := hgt code j + 1) (b := 41) (by omega) (by decide)), if_pos rfl, bnd_r (v_X2_named F w a hq), gd_t (inB_n (by omega) (by omega)), lt_v, nI_clamp (by omega)]
      refine step (hgt code j) _ ?_ ?_ (Nat.le_refl _)
      · rw [hgt_s, ← ht, if_neg hn2.1, if_neg hn2.2]
      · intro q hq2
        rw [hrun]
        unfold stpv
        rw [← ht, if_neg hn2.1, if_neg hn2.2]
        show upd _ _ _ q = _
        unfold upd
        rw [hrh]
        by_cases hqp : q = hgt code j
        · rw [if_pos hqp, if_pos hqp]
          by_cases hl : (1000 : Int32) ≤ gI w (a + 1) j
          · rw [if_pos hl, if_pos hl]
            obtain ⟨i, hi, e⟩ := nI_of2 (M := 1006) (n := 1006) (by decide) (x := gI w (a + 1) j) (by rw [Int32.not_lt]; exact hq.1) hq.2
            rw [e] at hl ⊢
            have hi2 : 1000 ≤ i := by
              by_cases hx : 1000 ≤ i
              · exact hx
              · exact absurd hl (nI_ge (a := i) (b := 1000) (by omega) (by decide))
            rw [show nI i - 1000 = nI (i - 1000) from pk_sub (a := i) (b := 1000) hi2, nI_clamp (by omega)]
            exact (h3.1 (i - 1000) (by omega)).symm
          · rw [if_neg hl, if_neg hl]
        · rw [if_neg hqp, if_neg hqp]
    · have hge : (1010 : Int32) ≤ gI w (a + 1) j := Int32.not_lt.mp hlt
      rw [if_pos hge]
      by_cases hneg : gI w (a + 1) j = 1136
      · -- less
        have ht3 : code j = 3000 := by rw [← ht, hneg]; decide
        rw [if_pos ht3] at hsz
        have hp : nI (hgt code j) - 1 = nI (hgt code j - 1) := pk_sub (a := hgt code j) (b := 1) hsz
        rw [if_pos hneg, hp, if_neg (nI_pos (by omega)), if_pos (show nI (hgt code j - 1) + 1 < 41 from by rw [nI_1]; exact nI_lt (a := hgt code j - 1 + 1) (b := 41) (by omega) (by decide)), if_neg (by decide), if_pos rfl, gd_t (inB_n (by omega) (by omega)), gd_t (inB_n (by omega) (by omega)), lt_v, nI_clamp (by omega)]
        refine step (hgt code j - 1) _ ?_ ?_ (by omega)
        · rw [hgt_s, if_pos ht3]; omega
        · intro q hq2
          rw [hrun]
          unfold stpv
          rw [if_pos ht3]
          show upd _ _ _ q = _
          unfold upd
          rw [hrh]
          by_cases hqp : q = hgt code j - 1
          · rw [if_pos hqp, if_pos hqp, h3.2 _ (by omega)]
          · rw [if_neg hqp, if_neg hqp]
      · -- an operation on two
        have hop : ¬ code j = 3000 ∧ 2000 ≤ code j := by
          rcases hc with ⟨_, hc⟩ | hc | hc | hc | hc | hc | hc | hc | hc
          · exfalso
            rw [Int32.le_iff_toInt_le] at hc hge
            have e1 : (1006 : Int32).toInt = 1006 := by decide
            have e2 : (1010 : Int32).toInt = 1010 := by decide
            omega
          · exact absurd hc hneg
          all_goals (rw [← ht, hc]; decide)
        have h2h := hN3 j hjN hop.2 hop.1
        have hp : nI (hgt code j) - 2 = nI (hgt code j - 2) := pk_sub (a := hgt code j) (b := 2) h2h
        rw [if_neg hneg, hp, if_neg (nI_pos (by omega)), if_pos (show nI (hgt code j - 2) + 1 < 41 from by rw [nI_1]; exact nI_lt (a := hgt code j - 2 + 1) (b := 41) (by omega) (by decide)), if_neg (by decide), if_neg (by decide), gd_t (inB_n (by omega) (by omega)), nI_1, gd_t (inB_n (by omega) (by omega)), bnd_r (v_X2_combine F w hc hlt hneg _ _), gd_t (inB_n (by omega) (by omega)), lt_v, nI_clamp (by omega), nI_clamp (by omega), ht]
        refine step (hgt code j - 2) _ ?_ ?_ (by omega)
        · rw [hgt_s, if_neg hop.1, if_pos hop.2]; omega
        · intro q hq2
          rw [hrun]
          unfold stpv
          rw [if_neg hop.1, if_pos hop.2]
          show upd _ _ _ q = _
          unfold upd
          rw [hrh]
          by_cases hqp : q = hgt code j - 2
          · rw [if_pos hqp, if_pos hqp, h3.2 _ (by omega), h3.2 _ (by omega), show hgt code j - 2 + 1 = hgt code j - 1 from by omega]
          · rw [if_neg hqp, if_neg hqp]

