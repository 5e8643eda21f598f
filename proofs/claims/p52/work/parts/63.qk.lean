-- ===== who takes the rope, who leaves it =====
def lvP (r : Nat) (b : Bl) (x : Int32) : Int32 × Bl := if x < 0 then (-1, b) else if nI r ≤ x then (-1, b) else if bt (b 8) x.toNatClampNeg = 0 then (-2, b) else (bc (b 8 &&& (bit1 x.toNatClampNeg ^^^ (-1))), setR b (b 8 &&& (bit1 x.toNatClampNeg ^^^ (-1))))
def tkP (r : Nat) (b : Bl) (x : Int32) : Int32 × Bl := if x < 0 then (-1, b) else if nI r ≤ x then (-1, b) else if bt (b 8) x.toNatClampNeg = 0 then (if bc (b 8) < 3 then (bc (b 8 ||| bit1 x.toNatClampNeg), setR b (b 8 ||| bit1 x.toNatClampNeg)) else (-3, b)) else (-2, b)
/-- the rope: a set of those that are there, three at most -/
def okRq (b : Bl) (r : Nat) : Prop := ∃ s : Nat, s < 2 ^ r ∧ pc s ≤ 3 ∧ b 8 = nI s
theorem ropes : ∀ s : Nat, s < 256 → ∀ i : Nat, i < 8 → (pc (clr s i) ≤ pc s) ∧ (bt (nI s) i = 0 → nI s ||| bit1 i = nI (s + 2 ^ i) ∧ nI s ^^^ bit1 i = nI (s + 2 ^ i) ∧ pc (s + 2 ^ i) = pc s + 1 ∧ s + 2 ^ i < 256) ∧ (¬ bt (nI s) i = 0 → nI s ^^^ bit1 i = nI (clr s i)) ∧ ((nI s &&& bit1 i = 0) = (bt (nI s) i = 0)) := by
  have h : ∀ s : Nat, s < 256 → ∀ i : Nat, i < 8 → (pc (clr s i) ≤ pc s) ∧ (bt (nI s) i = 0 → nI s ||| bit1 i = nI (s + 2 ^ i) ∧ nI s ^^^ bit1 i = nI (s + 2 ^ i) ∧ pc (s + 2 ^ i) = pc s + 1 ∧ s + 2 ^ i < 256) ∧ (¬ bt (nI s) i = 0 → nI s ^^^ bit1 i = nI (clr s i)) ∧ (nI s &&& bit1 i = 0 ↔ bt (nI s) i = 0) := by decide +kernel
  intro s hs i hi
  obtain ⟨a, b, c, d⟩ := h s hs i hi
  exact ⟨a, b, c, propext d⟩
theorem add_p : ∀ r : Nat, r < 9 → ∀ s : Nat, s < 2 ^ r → ∀ i : Nat, i < r → bt (nI s) i = 0 → s + 2 ^ i < 2 ^ r := by decide +kernel
theorem clr_p {r s i : Nat} (hr : r ≤ 8) (hs : s < 2 ^ r) (hi : i < r) : clr s i < 2 ^ r := by
  have h8 := pow8 hr
  unfold clr
  split
  · exact Nat.lt_of_le_of_lt (Nat.sub_le _ _) hs
  · exact hs
theorem bc3 {s : Nat} (hs : s < 256) : bc (nI s) < 3 ↔ pc s < 3 := by
  rw [bc_pc hs]
  have := pc_le hs
  exact nI_ltI (a := pc s) (b := 3) (by omega) (by decide)
/-- a ringer's number, or none -/
theorem who {r : Nat} (hr : r ≤ 8) (x : Int32) : x < 0 ∨ nI r ≤ x ∨ ∃ i, i < r ∧ x = nI i := pk_ix x (n := r) (by omega)
theorem setR_okRq {b : Bl} {r s : Nat} (h1 : s < 2 ^ r) (h2 : pc s ≤ 3) : okRq (setR b (nI s)) r := ⟨s, h1, h2, rfl⟩
theorem lvP_ok {r : Nat} (hr : r ≤ 8) {b : Bl} (h : okRq b r) (x : Int32) : okRq (lvP r b x).2 r ∧ (∃ s, s < 2 ^ r ∧ (lvP r b x).2 = setR b (nI s)) := by
  have h8 := pow8 hr
  obtain ⟨s, h1, h2, h3⟩ := h
  have hs : b = setR b (nI s) := by rw [← h3]; exact (setR_same b).symm
  unfold lvP
  rcases who hr x with h | h | ⟨i, hi, rfl⟩
  · rw [if_pos h]; exact ⟨⟨s, h1, h2, h3⟩, s, h1, hs⟩
  · by_cases hn : x < 0
    · rw [if_pos hn]; exact ⟨⟨s, h1, h2, h3⟩, s, h1, hs⟩
    · rw [if_neg hn, if_pos h]; exact ⟨⟨s, h1, h2, h3⟩, s, h1, hs⟩
  · rw [if_neg (nI_pos (by omega)), if_neg (nI_ge hi (by omega)), nI_clamp (by omega), h3]
    split
    · exact ⟨⟨s, h1, h2, h3⟩, s, h1, hs⟩
    · obtain ⟨c1, c2⟩ := clr_e s (by omega) i (by omega)
      obtain ⟨d1, -⟩ := ropes s (by omega) i (by omega)
      rw [c1]
      exact ⟨setR_okRq (clr_p hr h1 hi) (by omega), _, clr_p hr h1 hi, rfl⟩
theorem tkP_ok {r : Nat} (hr : r ≤ 8) {b : Bl} (h : okRq b r) (x : Int32) : okRq (tkP r b x).2 r ∧ (∃ s, s < 2 ^ r ∧ (tkP r b x).2 = setR b (nI s)) := by
  have h8 := pow8 hr
  obtain ⟨s, h1, h2, h3⟩ := h
  have hs : b = setR b (nI s) := by rw [← h3]; exact (setR_same b).symm
  unfold tkP
  rcases who hr x with h | h | ⟨i, hi, rfl⟩
  · rw [if_pos h]; exact ⟨⟨s, h1, h2, h3⟩, s, h1, hs⟩
  · by_cases hn : x < 0
    · rw [if_pos hn]; exact ⟨⟨s, h1, h2, h3⟩, s, h1, hs⟩
    · rw [if_neg hn, if_pos h]; exact ⟨⟨s, h1, h2, h3⟩, s, h1, hs⟩
  · rw [if_neg (nI_pos (by omega)), if_neg (nI_ge hi (by omega)), nI_clamp (by omega), h3]
    split
    · rename_i hb
      split
      · rename_i hb3
        obtain ⟨-, d2, -⟩ := ropes s (by omega) i (by omega)
        obtain ⟨e1, -, e3, e4⟩ := d2 hb
        have hp := (bc3 (s := s) (by omega)).mp hb3
        rw [e1]
        exact ⟨setR_okRq (add_p r (by omega) s h1 i hi hb) (by omega), _, add_p r (by omega) s h1 i hi hb, rfl⟩
      · exact ⟨⟨s, h1, h2, h3⟩, s, h1, hs⟩
    · exact ⟨⟨s, h1, h2, h3⟩, s, h1, hs⟩
theorem v_X10_letGo {F : Nat} {w : Wd} {r : Nat} (hr : r ≤ 8) (er : gI w 6 2 = nI r) (x : Int32) : ∃ w2, P_X10_letGo F w x = some ((lvP r (bC w 23) x).1, w2) ∧ Fr (fun b => b = 23) w w2 ∧ bC w2 23 = (lvP r (bC w 23) x).2 := by
  unfold P_X10_letGo lvP
  rw [bnd_r (v_X5_hasx F w 6 x), er]
  by_cases h1 : x < 0
  · rw [if_pos h1, if_pos rfl, if_pos h1]; exact ⟨w, rfl, Fr.rfl', rfl⟩
  rw [if_neg h1, if_neg h1]
  by_cases h2 : nI r ≤ x
  · rw [if_pos h2, if_pos rfl, if_pos h2]; exact ⟨w, rfl, Fr.rfl', rfl⟩
  rw [if_neg h2, if_neg h2]
  obtain ⟨i, hi, rfl⟩ : ∃ i, i < r ∧ x = nI i := by
    rcases who hr x with h | h | h
    · exact absurd h h1
    · exact absurd h h2
    · exact h
  rw [if_neg (n8gt (show i < 8 by omega)), if_neg (by decide), bnd_r (v_X1_holdsx F w 23 i (by omega)), nI_clamp (by omega)]
  show ∃ w2, (if bt (bC w 23 8) i = 0 then _ else _) = _ ∧ _
  by_cases h3 : bt (bC w 23 8) i = 0
  · rw [if_pos h3, if_pos h3]; exact ⟨w, rfl, Fr.rfl', rfl⟩
  · rw [if_neg h3, if_neg h3, lt_v, bnd_r (v_bc F _ _), gIs]
    exact ⟨_, rfl, Fr.ofI, bC_rope _⟩
theorem v_X10_grasp {F : Nat} {w : Wd} {r : Nat} (hr : r ≤ 8) (er : gI w 6 2 = nI r) (x : Int32) : ∃ w2, P_X10_grasp F w x = some ((tkP r (bC w 23) x).1, w2) ∧ Fr (fun b => b = 23) w w2 ∧ bC w2 23 = (tkP r (bC w 23) x).2 := by
  unfold P_X10_grasp tkP
  rw [bnd_r (v_X5_hasx F w 6 x), er]
  by_cases h1 : x < 0
  · rw [if_pos h1, if_pos rfl, if_pos h1]; exact ⟨w, rfl, Fr.rfl', rfl⟩
  rw [if_neg h1, if_neg h1]
  by_cases h2 : nI r ≤ x
  · rw [if_pos h2, if_pos rfl, if_pos h2]; exact ⟨w, rfl, Fr.rfl', rfl⟩
  rw [if_neg h2, if_neg h2]
  obtain ⟨i, hi, rfl⟩ : ∃ i, i < r ∧ x = nI i := by
    rcases who hr x with h | h | h
    · exact absurd h h1
    · exact absurd h h2
    · exact h
  rw [if_neg (n8gt (show i < 8 by omega)), if_neg (by decide), bnd_r (v_X1_holdsx F w 23 i (by omega)), nI_clamp (by omega)]
  show ∃ w2, (if bt (bC w 23 8) i = 0 then _ else _) = _ ∧ _
  by_cases h3 : bt (bC w 23 8) i = 0
  · rw [if_pos h3, if_pos h3, bnd_r (v_bc F _ _)]
    show ∃ w2, (if bc (bC w 23 8) < 3 then _ else _) = _ ∧ _
    by_cases h4 : bc (bC w 23 8) < 3
    · rw [if_pos h4, if_pos h4, lt_v, bnd_r (v_bc F _ _), gIs]
      exact ⟨_, rfl, Fr.ofI, bC_rope _⟩
    · rw [if_neg h4, if_neg h4]; exact ⟨w, rfl, Fr.rfl', rfl⟩
  · rw [if_neg h3, if_neg h3]; exact ⟨w, rfl, Fr.rfl', rfl⟩
def tirS (b : Bl) : Int32 := sumR b 0 8
theorem okRq_mi {T : Tw} {b : Bl} {r : Nat} (h : okRq b r) : okRq (mi T b) r := by
  obtain ⟨s, h1, h2, h3⟩ := h
  exact ⟨s, h1, h2, by rw [mi_e (by decide)]; exact h3⟩
theorem v_X1_tiredTogether {F : Nat} (hF : 100 ≤ F) (w : Wd) (a : Nat) : P_X1_tiredTogether F w a = some (tirS (bC w a), w) := by
  have key : ∀ m j, j + m = 8 → ∀ n, m < n → ∀ x, L_X1_tiredTogether_4 F a (fun w x4 => some (x4, w)) n w x (nI j) = some (x + sumR (bC w a) j m, w) := by
    intro m
    induction m with
    | zero =>
      intro j hj n hn x
      obtain ⟨n, rfl⟩ : ∃ q, n = q + 1 := ⟨n - 1, by omega⟩
      rw [L_X1_tiredTogether_4, if_pos (n8le (by omega) (lt31 (by omega)))]
      show some (x, w) = some (x + 0, w)
      rw [add0]
    | succ m ih =>
      intro j hj n hn x
      obtain ⟨n, rfl⟩ : ∃ q, n = q + 1 := ⟨n - 1, by omega⟩
      rw [L_X1_tiredTogether_4, if_neg (n8gt (by omega)), gd_t (inB_n (show j < 8 by omega) (lt31 (by omega))), lt_v, lt_v, nI_1, nI_clamp (lt31 (by omega)), ih (j + 1) (by omega) n (by omega), addA]
      have : bC w a j = gI w (a + 1) j := by unfold bC; rw [if_pos (by omega)]
      rw [← this]
      rfl
  refine (key 8 0 rfl F (by omega) 0).trans ?_
  rw [zadd]
  rfl
