-- ===== sign, end =====
def sgb (v : Int32) (j : Nat) : Int32 := iushrI v (nI (24 - 8 * j)) &&& 255
theorem toI (x : Int32) : x.toInt = x.toBitVec.toNat ∨ x.toInt = (x.toBitVec.toNat : Int) - 4294967296 := by
  have h : x.toInt = if 2 * x.toBitVec.toNat < 2 ^ 32 then (x.toBitVec.toNat : Int) else (x.toBitVec.toNat : Int) - ((2 ^ 32 : Nat) : Int) := BitVec.toInt_eq_toNat_cond x.toBitVec
  rw [h]
  split
  · exact .inl rfl
  · exact .inr rfl
theorem shr_same (v s : Int32) (k : Nat) (h1 : (s.toBitVec.smod 32).toNat = k) (h2 : ((s.toUInt32 &&& Int32.toUInt32 31).toBitVec % 32).toNat = k) (h3 : s &&& 31 = s) (hk : k = 0 ∨ k = 8 ∨ k = 16 ∨ k = 24) : ishrI v s &&& 255 = iushrI v s &&& 255 := by
  unfold ishrI iushrI
  rw [h3, pk_and (v >>> s) 8 (by decide), pk_and _ 8 (by decide), pk_ushr v s k h2]
  have e1 := pk_shr v s k h1
  have e2 : (v >>> s).toInt = (v >>> s).toBitVec.toNat ∨ (v >>> s).toInt = ((v >>> s).toBitVec.toNat : Int) - 4294967296 := toI _
  have e3 : v.toInt = v.toBitVec.toNat ∨ v.toInt = (v.toBitVec.toNat : Int) - 4294967296 := toI _
  rw [Int.shiftRight_eq_div_pow] at e1
  generalize (v >>> s).toInt = A at e1 e2
  generalize (v >>> s).toBitVec.toNat = B at e2 ⊢
  generalize v.toInt = C at e1 e3
  generalize v.toBitVec.toNat = D at e3 ⊢
  congr 1
  rcases hk with rfl | rfl | rfl | rfl
  · have : (2 : Nat) ^ 0 = 1 := rfl
    simp only [this] at *
    omega
  · have : (2 : Nat) ^ 8 = 256 := rfl
    simp only [this] at *
    omega
  · have : (2 : Nat) ^ 16 = 65536 := rfl
    simp only [this] at *
    omega
  · have : (2 : Nat) ^ 24 = 16777216 := rfl
    simp only [this] at *
    omega
theorem sgb_m (v : Int32) : ∀ j, j < 4 → ishrI v (nI (24 - 8 * j)) &&& 255 = sgb v j := by
  intro j hj
  unfold sgb
  have : j = 0 ∨ j = 1 ∨ j = 2 ∨ j = 3 := by omega
  rcases this with rfl | rfl | rfl | rfl
  · exact shr_same v _ 24 (by decide) (by decide) (by decide) (by omega)
  · exact shr_same v _ 16 (by decide) (by decide) (by decide) (by omega)
  · exact shr_same v _ 8 (by decide) (by decide) (by decide) (by omega)
  · exact shr_same v _ 0 (by decide) (by decide) (by decide) (by omega)
def sgT (t : Nat → Int32) (n : Nat) (v : Int32) : Nat → Int32 := fun k => if n ≤ k ∧ k < n + 4 then sgb v (k - n) else t k
theorem v_X8_add (F : Nat) {w : Wd} {t : Nat → Int32} {n : Nat} (h : TxC w t n) (hn : n < 80) (x : Int32) : ∃ w2, P_X8_add F w x = some w2 ∧ Fr (fun b => b = 1 ∨ b = 2) w w2 ∧ TxC w2 (fun k => if k = n then x else t k) (n + 1) := by
  obtain ⟨h1, h2, h3⟩ := h
  unfold P_X8_add
  rw [h1, if_neg (nI_pos (by omega)), if_neg (show ¬ (80 : Int32) ≤ nI n from nI_ge (a := n) (b := 80) hn (by decide)), gd_t (inB_n hn (by omega)), nI_clamp (by omega), lt_v, gIa (by decide), h1, lt_v, nI_1]
  refine ⟨_, rfl, (Fr.ofI (a := 2) (k := n) (v := x)).tr Fr.ofI (fun b hb => .inr hb) (fun b hb => .inl hb), gIs, by omega, fun k hk => ?_⟩
  rw [gIa (by decide)]
  show gI (sI w 2 n x) 2 k = if k = n then x else t k
  by_cases c : k = n
  · rw [if_pos c, c, gIs]
  · rw [if_neg c, gIk c]; exact h3 k (by omega)
theorem TxC_ext {w : Wd} {t t2 : Nat → Int32} {n : Nat} (h : TxC w t n) (e : ∀ k, k < n → t k = t2 k) : TxC w t2 n := ⟨h.1, h.2.1, fun k hk => by rw [h.2.2 k hk]; exact e k hk⟩
def qSign (n : Nat) : Int32 := if n ≤ 76 then nI (n + 4) else -1
theorem v_X10_sign {F : Nat} (hF : 100 ≤ F) {w : Wd} {t : Nat → Int32} {n : Nat} (h : TxC w t n) (v : Int32) : ∃ w2, P_X10_sign F w v = some (qSign n, w2) ∧ Fr (fun b => b = 1 ∨ b = 2) w w2 ∧ TxC w2 (if n ≤ 76 then sgT t n v else t) (if n ≤ 76 then n + 4 else n) := by
  have hn := h.2.1
  unfold P_X10_sign qSign
  rw [h.1, show nI n + 4 = nI (n + 4) from nI_add n 4]
  by_cases c : n ≤ 76
  · rw [if_pos (show nI (n + 4) ≤ 80 from nI_le (a := n + 4) (b := 80) (by omega) (by decide)), if_pos c, if_pos c, if_pos c]
    obtain ⟨f, hf⟩ : ∃ f, F = f + 5 := ⟨F - 5, by omega⟩
    obtain ⟨w1, a1, a2, a3⟩ := v_X8_add F h (by omega) (sgb v 0)
    obtain ⟨w2, b1, b2, b3⟩ := v_X8_add F a3 (by omega) (sgb v 1)
    obtain ⟨w3, c1, c2, c3⟩ := v_X8_add F b3 (by omega) (sgb v 2)
    obtain ⟨w4, d1, d2, d3⟩ := v_X8_add F c3 (by omega) (sgb v 3)
    have hz : ∀ G, L_X10_sign_19 G v (fun w  => some (gI w 1 1, w)) F w 24 = L_X10_sign_19 G v (fun w  => some (gI w 1 1, w)) (f + 5) w 24 := fun G => by rw [hf]
    have key : L_X10_sign_19 F v (fun w  => some (gI w 1 1, w)) (f + 5) w 24 = some (gI w4 1 1, w4) := by
      rw [L_X10_sign_19, if_neg (show ¬ (24 : Int32) < 0 from by decide), bnv_r (show P_X8_add F w (iushrI v 24 &&& 255) = _ from a1), lt_v, show (24 : Int32) + (-8) = 16 from rfl]
      rw [L_X10_sign_19, if_neg (show ¬ (16 : Int32) < 0 from by decide), bnv_r (show P_X8_add F w1 (iushrI v 16 &&& 255) = _ from b1), lt_v, show (16 : Int32) + (-8) = 8 from rfl]
      rw [L_X10_sign_19, if_neg (show ¬ (8 : Int32) < 0 from by decide), bnv_r (show P_X8_add F w2 (iushrI v 8 &&& 255) = _ from c1), lt_v, show (8 : Int32) + (-8) = 0 from rfl]
      rw [L_X10_sign_19, if_neg (show ¬ (0 : Int32) < 0 from by decide), bnv_r (show P_X8_add F w3 (iushrI v 0 &&& 255) = _ from d1), lt_v, show (0 : Int32) + (-8) = -8 from rfl]
      rw [L_X10_sign_19, if_pos (show (-8 : Int32) < 0 from by decide)]
    rw [hz F, key, d3.1]
    refine ⟨w4, rfl, ((a2.tr b2 (fun _ h => h) (fun _ h => h)).tr c2 (fun _ h => h) (fun _ h => h)).tr d2 (fun _ h => h) (fun _ h => h), TxC_ext d3 (fun k hk => ?_)⟩
    unfold sgT
    by_cases k3 : k = n + 1 + 1 + 1
    · rw [if_pos k3, if_pos (by omega), show k - n = 3 from by omega]
    rw [if_neg k3]
    by_cases k2 : k = n + 1 + 1
    · rw [if_pos k2, if_pos (by omega), show k - n = 2 from by omega]
    rw [if_neg k2]
    by_cases k1 : k = n + 1
    · rw [if_pos k1, if_pos (by omega), show k - n = 1 from by omega]
    rw [if_neg k1]
    by_cases k0 : k = n
    · rw [if_pos k0, if_pos (by omega), show k - n = 0 from by omega]
    rw [if_neg k0, if_neg (by omega)]
  · rw [if_neg (show ¬ nI (n + 4) ≤ 80 from nI_ge (a := 80) (b := n + 4) (by omega) (by omega)), if_neg c, if_neg c, if_neg c]
    exact ⟨w, rfl, Fr.rfl', h⟩
def Tx (a k : Nat) : Prop := (a = 88 ∧ (k = 0 ∨ k = 14)) ∨ a = 97
theorem v_X11_sign {F : Nat} (hF : 100 ≤ F) {w : Wd} {t : Nat → Int32} {n : Nat} (h : TxM w t n) (v : Int32) : ∃ w2, P_X11_sign F w v = some (qSign n, w2) ∧ Fm Tx w w2 ∧ TxM w2 (if n ≤ 76 then sgT t n v else t) (if n ≤ 76 then n + 4 else n) := by
  obtain ⟨h1, hn, h3⟩ := h
  have f0 : Fm Tx w (sI w 88 0 0) := Fm.rfl'.sI (.inl ⟨rfl, .inl rfl⟩)
  unfold P_X11_sign qSign
  rw [lt_v, gIk (by decide), h1]
  by_cases c : n ≤ 76
  · rw [if_pos (show nI n ≤ 76 from nI_le (a := n) (b := 76) c (by decide)), if_pos c, if_pos c, if_pos c]
    have key : ∀ m j, j + m = 4 → ∀ f, m < f → ∀ u, Fm Tx w u → gI u 88 14 = nI n → (∀ k, k < n + j → gI u 97 k = sgT t n v k) → ∃ w2, L_X11_sign_18 F v (fun w  => lt (sI w 88 14 ((gI w 88 14) + 4)) (fun w9 => some (gI w9 88 14, w9))) f u (nI j) = some (nI (n + 4), w2) ∧ Fm Tx w w2 ∧ TxM w2 (sgT t n v) (n + 4) := by
      intro m
      induction m with
      | zero =>
        intro j hj f hf u g1 g2 g3
        obtain ⟨f, rfl⟩ : ∃ q, f = q + 1 := ⟨f - 1, by omega⟩
        obtain rfl : j = 4 := by omega
        rw [L_X11_sign_18, if_pos (show (4 : Int32) ≤ nI 4 from by decide), lt_v, gIs, g2, show nI n + 4 = nI (n + 4) from nI_add n 4]
        exact ⟨_, rfl, g1.sI (.inl ⟨rfl, .inr rfl⟩), gIs, by omega, fun k hk => by rw [gIa (by decide)]; exact g3 k hk⟩
      | succ m ih =>
        intro j hj f hf u g1 g2 g3
        obtain ⟨f, rfl⟩ : ∃ q, f = q + 1 := ⟨f - 1, by omega⟩
        have e24 : (24 : Int32) - 8 * nI j = nI (24 - 8 * j) := by
          rw [show (8 : Int32) = nI 8 from rfl, show (24 : Int32) = nI 24 from rfl, pk_mul, pk_sub (by omega)]
        rw [L_X11_sign_18, if_neg (show ¬ (4 : Int32) ≤ nI j from nI_ge (a := j) (b := 4) (by omega) (by decide)), g2, nI_add, gd_t (inB_n (by omega) (by omega)), nI_clamp (by omega), e24, sgb_m v j (by omega), lt_v, lt_v, nI_1]
        refine ih (j + 1) (by omega) f (by omega) _ (g1.sI (.inr rfl)) (by rw [gIa (by decide)]; exact g2) (fun k hk => ?_)
        by_cases e : k = n + j
        · rw [e, gIs]; unfold sgT; rw [if_pos (by omega), show n + j - n = j from by omega]
        · rw [gIk e]; exact g3 k (by omega)
    exact key 4 0 rfl F (by omega) (sI w 88 0 0) f0 (by rw [gIk (by decide)]; exact h1) (fun k hk => by
      rw [gIa (by decide), h3 k (by omega)]; unfold sgT; rw [if_neg (by omega)])
  · rw [if_neg (show ¬ nI n ≤ 76 from nI_ge (a := 76) (b := n) (by omega) (by omega)), if_neg c, if_neg c, if_neg c]
    exact ⟨_, rfl, f0, by rw [gIk (by decide)]; exact h1, hn, fun k hk => by rw [gIa (by decide)]; exact h3 k hk⟩
def qEnd (n : Nat) (x : Int32) : Int32 × Nat := if x < 0 then (0, n) else if x ≤ nI n then (1, x.toNatClampNeg) else (0, n)
theorem qEnd_le {n : Nat} (hn : n ≤ 80) (x : Int32) : (qEnd n x).2 ≤ n := by
  unfold qEnd
  by_cases h1 : x < 0
  · rw [if_pos h1]; exact Nat.le_refl _
  rw [if_neg h1]
  by_cases h2 : x ≤ nI n
  · obtain ⟨m, -, m2, rfl⟩ := rng h1 h2 (A := 0) (B := n) rfl rfl (by decide) (by omega)
    rw [if_pos h2]
    show (nI m).toNatClampNeg ≤ n
    rw [nI_clamp (by omega)]; exact m2
  · rw [if_neg h2]; exact Nat.le_refl _
theorem v_X10_end (F : Nat) {w : Wd} {t : Nat → Int32} {n : Nat} (h : TxC w t n) (x : Int32) : ∃ w2, P_X10_end F w x = some ((qEnd n x).1, w2) ∧ Fr (fun b => b = 1) w w2 ∧ TxC w2 t (qEnd n x).2 := by
  have hn := h.2.1
  unfold P_X10_end qEnd
  by_cases h1 : x < 0
  · rw [if_pos h1, if_pos h1]; exact ⟨w, rfl, Fr.rfl', h⟩
  rw [if_neg h1, if_neg h1, h.1]
  by_cases h2 : x ≤ nI n
  · rw [if_pos h2, if_pos h2, lt_v]
    obtain ⟨m, -, m2, rfl⟩ := rng h1 h2 (A := 0) (B := n) rfl rfl (by decide) (by omega)
    rw [nI_clamp (by omega)]
    exact ⟨_, rfl, Fr.ofI, gIs, by omega, fun k hk => by rw [gIa (by decide)]; exact h.2.2 k (by have hk : k < m := hk; omega)⟩
  · rw [if_neg h2, if_neg h2]; exact ⟨w, rfl, Fr.rfl', h⟩
theorem v_X11_end (F : Nat) {w : Wd} {t : Nat → Int32} {n : Nat} (h : TxM w t n) (x : Int32) : ∃ w2, P_X11_end F w x = some ((qEnd n x).1, w2) ∧ Fm Tx w w2 ∧ TxM w2 t (qEnd n x).2 := by
  obtain ⟨h0, hn, h3⟩ := h
  have f0 : Fm Tx w (sI w 88 0 0) := Fm.rfl'.sI (.inl ⟨rfl, .inl rfl⟩)
  have hx0 : TxM (sI w 88 0 0) t n := ⟨by rw [gIk (by decide)]; exact h0, hn, fun k hk => by rw [gIa (by decide)]; exact h3 k hk⟩
  unfold P_X11_end qEnd
  rw [lt_v, gIk (by decide), h0, in_r F _ x 0 (nI n)]
  by_cases h1 : x < 0
  · rw [if_pos h1, if_pos h1]; exact ⟨_, rfl, f0, hx0⟩
  rw [if_neg h1, if_neg h1]
  by_cases h2 : x ≤ nI n
  · rw [if_pos h2, if_pos h2, lt_v]
    obtain ⟨m, -, m2, rfl⟩ := rng h1 h2 (A := 0) (B := n) rfl rfl (by decide) (by omega)
    rw [nI_clamp (by omega)]
    exact ⟨_, rfl, f0.sI (.inl ⟨rfl, .inr rfl⟩), gIs, by omega, fun k hk => by rw [gIa (by decide), gIa (by decide)]; exact h3 k (by have hk : k < m := hk; omega)⟩
  · rw [if_neg h2, if_neg h2]; exact ⟨_, rfl, f0, hx0⟩
