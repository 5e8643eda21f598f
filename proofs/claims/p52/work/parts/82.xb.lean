-- ===== sign, end =====
def sgb (v : Int32) (j : Nat) : Int32 := iushrI v (nI (24 - 8 * j)) &&& 255
def sgT (t : Nat → Int32) (n : Nat) (v : Int32) : Nat → Int32 := fun k => if n ≤ k ∧ k < n + 4 then sgb v (k - n) else t k
theorem v_X8_add (F : Nat) {w : Wd} {t : Nat → Int32} {n : Nat} (h : TxC w t n) (hn : n < 80) (x : Int32) : ∃ w2, P_X8_add F w x = some w2 ∧ Fr (fun b => b = 1 ∨ b = 2) w w2 ∧ TxC w2 (fun k => if k = n then x else t k) (n + 1) := by
  obtain ⟨h1, h2, h3⟩ := h
  unfold P_X8_add
  rw [h1, if_neg (nI_pos (by omega)), if_neg (show ¬ (80 : Int32) ≤ nI n from nI_ge (a := n) (b := 80) hn (by decide)), gd_t (inB_n hn (by omega)), nI_clamp (by omega), lt_v, gIa (by decide), h1, lt_v, nI_1]
  refine ⟨_, rfl, (Fr.ofI (a := 2) (k := n) (v := x)).tr Fr.ofI (fun b hb => .inr hb) (fun b hb => .inl hb), gIs, by omega, fun k hk => ?_⟩
  rw [gIa (by decide)]
  show gI (sI w 2 n x) 2 k = if k = n then x else t k
  by_cases c : k = n
  · rw [if_pos c, c, gIs]
  · rw [if_neg c, gIk c]; exact h3 k (by omega)
theorem TxC_ext {w : Wd} {t t2 : Nat → Int32} {n : Nat} (h : TxC w t n) (e : ∀ k, k < n → t k = t2 k) : TxC w t2 n := ⟨h.1, h.2.1, fun k hk => by rw [h.2.2 k hk]; exact e k hk⟩
def qSign (n : Nat) : Int32 := if n ≤ 76 then nI (n + 4) else -1
theorem v_X10_sign {F : Nat} (hF : 100 ≤ F) {w : Wd} {t : Nat → Int32} {n : Nat} (h : TxC w t n) (v : Int32) : ∃ w2, P_X10_sign F w v = some (qSign n, w2) ∧ Fr (fun b => b = 1 ∨ b = 2) w w2 ∧ TxC w2 (if n ≤ 76 then sgT t n v else t) (if n ≤ 76 then n + 4 else n) := by
  have hn := h.2.1
  unfold P_X10_sign qSign
  rw [h.1, show nI n + 4 = nI (n + 4) from nI_add n 4]
  by_cases c : n ≤ 76
  · rw [if_pos (show nI (n + 4) ≤ 80 from nI_le (a := n + 4) (b := 80) (by omega) (by decide)), if_pos c, if_pos c, if_pos c]
    obtain ⟨f, hf⟩ : ∃ f, F = f + 5 := ⟨F - 5, by omega⟩
    obtain ⟨w1, a1, a2, a3⟩ := v_X8_add F h (by omega) (sgb v 0)
    obtain ⟨w2, b1, b2, b3⟩ := v_X8_add F a3 (by omega) (sgb v 1)
    obtain ⟨w3, c1, c2, c3⟩ := v_X8_add F b3 (by omega) (sgb v 2)
    obtain ⟨w4, d1, d2, d3⟩ := v_X8_add F c3 (by omega) (sgb v 3)
    have hz : ∀ G, L_X10_sign_19 G v (fun w  => some (gI w 1 1, w)) F w 24 = L_X10_sign_19 G v (fun w  => some (gI w 1 1, w)) (f + 5) w 24 := fun G => by rw [hf]
    have key : L_X10_sign_19 F v (fun w  => some (gI w 1 1, w)) (f + 5) w 24 = some (gI w4 1 1, w4) := by
      rw [L_X10_sign_19, if_neg (show ¬ (24 : Int32) < 0 from by decide), bnv_r (show P_X8_add F w (iushrI v 24 &&& 255) = _ from a1), lt_v, show (24 : Int32) + (-8) = 16 from rfl]
      rw [L_X10_sign_19, if_neg (show ¬ (16 : Int32) < 0 from by decide), bnv_r (show P_X8_add F w1 (iushrI v 16 &&& 255) = _ from b1), lt_v, show (16 : Int32) + (-8) = 8 from rfl]
      rw [L_X10_sign_19, if_neg (show ¬ (8 : Int32) < 0 from by decide), bnv_r (show P_X8_add F w2 (iushrI v 8 &&& 255) = _ from c1), lt_v, show (8 : Int32) + (-8) = 0 from rfl]
      rw [L_X10_sign_19, if_neg (show ¬ (0 : Int32) < 0 from by decide), bnv_r (show P_X8_add F w3 (iushrI v 0 &&& 255) = _ from d1), lt_v, show (0 : Int32) + (-8) = -8 from rfl]
      rw [L_X10_sign_19, if_pos (show (-8 : Int32) < 0 from by decide)]
    rw [hz F, key, d3.1]
    refine ⟨w4, rfl, ((a2.tr b2 (fun _ h => h) (fun _ h => h)).tr c2 (fun _ h => h) (fun _ h => h)).tr d2 (fun _ h => h) (fun _ h => h), TxC_ext d3 (fun k hk => ?_)⟩
    unfold sgT
    by_cases k3 : k = n + 1 + 1 + 1
    · rw [if_pos k3, if_pos (by omega), show k - n = 3 from by omega]
    rw [if_neg k3]
    by_cases k2 : k = n + 1 + 1
    · rw [if_pos k2, if_pos (by omega), show k - n = 2 from by omega]
    rw [if_neg k2]
    by_cases k1 : k = n + 1
    · rw [if_pos k1, if_pos (by omega), show k - n = 1 from by omega]
    rw [if_neg k1]
    by_cases k0 : k = n
    · rw [if_pos k0, if_pos (by omega), show k - n = 0 from by omega]
    rw [if_neg k0, if_neg (by omega)]
  · rw [if_neg (show ¬ nI (n + 4) ≤ 80 from nI_ge (a := 80) (b := n + 4) (by omega) (by omega)), if_neg c, if_neg c, if_neg c]
    exact ⟨w, rfl, Fr.rfl', h⟩
def qEnd (n : Nat) (x : Int32) : Int32 × Nat := if x < 0 then (0, n) else if x ≤ nI n then (1, x.toNatClampNeg) else (0, n)
theorem v_X10_end (F : Nat) {w : Wd} {t : Nat → Int32} {n : Nat} (h : TxC w t n) (x : Int32) : ∃ w2, P_X10_end F w x = some ((qEnd n x).1, w2) ∧ Fr (fun b => b = 1) w w2 ∧ TxC w2 t (qEnd n x).2 := by
  have hn := h.2.1
  unfold P_X10_end qEnd
  by_cases h1 : x < 0
  · rw [if_pos h1, if_pos h1]; exact ⟨w, rfl, Fr.rfl', h⟩
  rw [if_neg h1, if_neg h1, h.1]
  by_cases h2 : x ≤ nI n
  · rw [if_pos h2, if_pos h2, lt_v]
    obtain ⟨m, -, m2, rfl⟩ := rng h1 h2 (A := 0) (B := n) rfl rfl (by decide) (by omega)
    rw [nI_clamp (by omega)]
    exact ⟨_, rfl, Fr.ofI, gIs, by omega, fun k hk => by rw [gIa (by decide)]; exact h.2.2 k (by have hk : k < m := hk; omega)⟩
  · rw [if_neg h2, if_neg h2]; exact ⟨w, rfl, Fr.rfl', h⟩
