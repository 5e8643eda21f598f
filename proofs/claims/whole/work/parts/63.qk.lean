-- ===== who takes the rope, who leaves it =====
def lvP (r : Nat) (b : Bl) (x : Int32) : Int32 × Bl := if x < 0 then (-1, b) else if nI r ≤ x then (-1, b) else if bt (b 8) x.toNatClampNeg = 0 then (-2, b) else (bc (b 8 &&& (bit1 x.toNatClampNeg ^^^ (-1))), setR b (b 8 &&& (bit1 x.toNatClampNeg ^^^ (-1))))
def tkP (r : Nat) (b : Bl) (x : Int32) : Int32 × Bl := if x < 0 then (-1, b) else if nI r ≤ x then (-1, b) else if bt (b 8) x.toNatClampNeg = 0 then (if bc (b 8) < 3 then (bc (b 8 ||| bit1 x.toNatClampNeg), setR b (b 8 ||| bit1 x.toNatClampNeg)) else (-3, b)) else (-2, b)
/-- the rope: a set of those that are there, three at most -/
def okRq (b : Bl) (r : Nat) : Prop := ∃ s : Nat, s < 2 ^ r ∧ pc s ≤ 3 ∧ b 8 = nI s
theorem okRq_p {b : Bl} {r : Nat} (h : okRq b r) : okRp b r := by obtain ⟨s, h1, h2, h3⟩ := h; exact ⟨s, h1, h3⟩
theorem ropes : ∀ s : Nat, s < 256 → ∀ i : Nat, i < 8 → (pc (clr s i) ≤ pc s) ∧ (bt (nI s) i = 0 → nI s ||| bit1 i = nI (s + 2 ^ i) ∧ nI s ^^^ bit1 i = nI (s + 2 ^ i) ∧ pc (s + 2 ^ i) = pc s + 1 ∧ s + 2 ^ i < 256) ∧ (¬ bt (nI s) i = 0 → nI s ^^^ bit1 i = nI (clr s i)) ∧ ((nI s &&& bit1 i = 0) = (bt (nI s) i = 0)) := by
  have h : ∀ s : Nat, s < 256 → ∀ i : Nat, i < 8 → (pc (clr s i) ≤ pc s) ∧ (bt (nI s) i = 0 → nI s ||| bit1 i = nI (s + 2 ^ i) ∧ nI s ^^^ bit1 i = nI (s + 2 ^ i) ∧ pc (s + 2 ^ i) = pc s + 1 ∧ s + 2 ^ i < 256) ∧ (¬ bt (nI s) i = 0 → nI s ^^^ bit1 i = nI (clr s i)) ∧ (nI s &&& bit1 i = 0 ↔ bt (nI s) i = 0) := by decide +kernel
  intro s hs i hi
  obtain ⟨a, b, c, d⟩ := h s hs i hi
  exact ⟨a, b, c, propext d⟩
theorem add_p : ∀ r : Nat, r < 9 → ∀ s : Nat, s < 2 ^ r → ∀ i : Nat, i < r → bt (nI s) i = 0 → s + 2 ^ i < 2 ^ r := by decide +kernel
theorem clr_p {r s i : Nat} (hr : r ≤ 8) (hs : s < 2 ^ r) (hi : i < r) : clr s i < 2 ^ r := by
  have h8 := pow8 hr
  unfold clr
  split
  · exact Nat.lt_of_le_of_lt (Nat.sub_le _ _) hs
  · exact hs
theorem bc3 {s : Nat} (hs : s < 256) : bc (nI s) < 3 ↔ pc s < 3 := by
  rw [bc_pc hs]
  have := pc_le hs
  exact nI_ltI (a := pc s) (b := 3) (by omega) (by decide)
theorem bce3 {s : Nat} (hs : s < 256) : bc (nI s) = 3 ↔ pc s = 3 := by
  rw [bc_pc hs]
  have := pc_le hs
  exact nI_eq (a := pc s) (b := 3) (by omega) (by decide)
/-- a ringer's number, or none -/
theorem who {r : Nat} (hr : r ≤ 8) (x : Int32) : x < 0 ∨ nI r ≤ x ∨ ∃ i, i < r ∧ x = nI i := pk_ix x (n := r) (by omega)
theorem setR_okRq {b : Bl} {r s : Nat} (h1 : s < 2 ^ r) (h2 : pc s ≤ 3) : okRq (setR b (nI s)) r := ⟨s, h1, h2, rfl⟩
theorem lvP_ok {r : Nat} (hr : r ≤ 8) {b : Bl} (h : okRq b r) (x : Int32) : okRq (lvP r b x).2 r ∧ (∃ s, s < 2 ^ r ∧ (lvP r b x).2 = setR b (nI s)) := by
  have h8 := pow8 hr
  obtain ⟨s, h1, h2, h3⟩ := h
  have hs : b = setR b (nI s) := by rw [← h3]; exact (setR_same b).symm
  unfold lvP
  rcases who hr x with h | h | ⟨i, hi, rfl⟩
  · rw [if_pos h]; exact ⟨⟨s, h1, h2, h3⟩, s, h1, hs⟩
  · by_cases hn : x < 0
    · rw [if_pos hn]; exact ⟨⟨s, h1, h2, h3⟩, s, h1, hs⟩
    · rw [if_neg hn, if_pos h]; exact ⟨⟨s, h1, h2, h3⟩, s, h1, hs⟩
  · rw [if_neg (nI_pos (by omega)), if_neg (nI_ge hi (by omega)), nI_clamp (by omega), h3]
    split
    · exact ⟨⟨s, h1, h2, h3⟩, s, h1, hs⟩
    · obtain ⟨c1, c2⟩ := clr_e s (by omega) i (by omega)
      obtain ⟨d1, -⟩ := ropes s (by omega) i (by omega)
      rw [c1]
      exact ⟨setR_okRq (clr_p hr h1 hi) (by omega), _, clr_p hr h1 hi, rfl⟩
theorem tkP_ok {r : Nat} (hr : r ≤ 8) {b : Bl} (h : okRq b r) (x : Int32) : okRq (tkP r b x).2 r ∧ (∃ s, s < 2 ^ r ∧ (tkP r b x).2 = setR b (nI s)) := by
  have h8 := pow8 hr
  obtain ⟨s, h1, h2, h3⟩ := h
  have hs : b = setR b (nI s) := by rw [← h3]; exact (setR_same b).symm
  unfold tkP
  rcases who hr x with h | h | ⟨i, hi, rfl⟩
  · rw [if_pos h]; exact ⟨⟨s, h1, h2, h3⟩, s, h1, hs⟩
  · by_cases hn : x < 0
    · rw [if_pos hn]; exact ⟨⟨s, h1, h2, h3⟩, s, h1, hs⟩
    · rw [if_neg hn, if_pos h]; exact ⟨⟨s, h1, h2, h3⟩, s, h1, hs⟩
  · rw [if_neg (nI_pos (by omega)), if_neg (nI_ge hi (by omega)), nI_clamp (by omega), h3]
    split
    · rename_i hb
      split
      · rename_i hb3
        obtain ⟨-, d2, -⟩ := ropes s (by omega) i (by omega)
        obtain ⟨e1, -, e3, e4⟩ := d2 hb
        have hp := (bc3 (s := s) (by omega)).mp hb3
        rw [e1]
        exact ⟨setR_okRq (add_p r (by omega) s h1 i hi hb) (by omega), _, add_p r (by omega) s h1 i hi hb, rfl⟩
      · exact ⟨⟨s, h1, h2, h3⟩, s, h1, hs⟩
    · exact ⟨⟨s, h1, h2, h3⟩, s, h1, hs⟩
theorem v_X10_letGo {F : Nat} {w : Wd} {r : Nat} (hr : r ≤ 8) (er : gI w 6 2 = nI r) (x : Int32) : ∃ w2, P_X10_letGo F w x = some ((lvP r (bC w 23) x).1, w2) ∧ Fr (fun b => b = 23) w w2 ∧ bC w2 23 = (lvP r (bC w 23) x).2 := by
  unfold P_X10_letGo lvP
  rw [bnd_r (v_X5_hasx F w 6 x), er]
  by_cases h1 : x < 0
  · rw [if_pos h1, if_pos rfl, if_pos h1]; exact ⟨w, rfl, Fr.rfl', rfl⟩
  rw [if_neg h1, if_neg h1]
  by_cases h2 : nI r ≤ x
  · rw [if_pos h2, if_pos rfl, if_pos h2]; exact ⟨w, rfl, Fr.rfl', rfl⟩
  rw [if_neg h2, if_neg h2]
  obtain ⟨i, hi, rfl⟩ : ∃ i, i < r ∧ x = nI i := by
    rcases who hr x with h | h | h
    · exact absurd h h1
    · exact absurd h h2
    · exact h
  rw [if_neg (n8gt (show i < 8 by omega)), if_neg (by decide), bnd_r (v_X1_holdsx F w 23 i (by omega)), nI_clamp (by omega)]
  show ∃ w2, (if bt (bC w 23 8) i = 0 then _ else _) = _ ∧ _
  by_cases h3 : bt (bC w 23 8) i = 0
  · rw [if_pos h3, if_pos h3]; exact ⟨w, rfl, Fr.rfl', rfl⟩
  · rw [if_neg h3, if_neg h3, lt_v, bnd_r (v_bc F _ _), gIs]
    exact ⟨_, rfl, Fr.ofI, bC_rope _⟩
theorem v_X10_grasp {F : Nat} {w : Wd} {r : Nat} (hr : r ≤ 8) (er : gI w 6 2 = nI r) (x : Int32) : ∃ w2, P_X10_grasp F w x = some ((tkP r (bC w 23) x).1, w2) ∧ Fr (fun b => b = 23) w w2 ∧ bC w2 23 = (tkP r (bC w 23) x).2 := by
  unfold P_X10_grasp tkP
  rw [bnd_r (v_X5_hasx F w 6 x), er]
  by_cases h1 : x < 0
  · rw [if_pos h1, if_pos rfl, if_pos h1]; exact ⟨w, rfl, Fr.rfl', rfl⟩
  rw [if_neg h1, if_neg h1]
  by_cases h2 : nI r ≤ x
  · rw [if_pos h2, if_pos rfl, if_pos h2]; exact ⟨w, rfl, Fr.rfl', rfl⟩
  rw [if_neg h2, if_neg h2]
  obtain ⟨i, hi, rfl⟩ : ∃ i, i < r ∧ x = nI i := by
    rcases who hr x with h | h | h
    · exact absurd h h1
    · exact absurd h h2
    · exact h
  rw [if_neg (n8gt (show i < 8 by omega)), if_neg (by decide), bnd_r (v_X1_holdsx F w 23 i (by omega)), nI_clamp (by omega)]
  show ∃ w2, (if bt (bC w 23 8) i = 0 then _ else _) = _ ∧ _
  by_cases h3 : bt (bC w 23 8) i = 0
  · rw [if_pos h3, if_pos h3, bnd_r (v_bc F _ _)]
    show ∃ w2, (if bc (bC w 23 8) < 3 then _ else _) = _ ∧ _
    by_cases h4 : bc (bC w 23 8) < 3
    · rw [if_pos h4, if_pos h4, lt_v, bnd_r (v_bc F _ _), gIs]
      exact ⟨_, rfl, Fr.ofI, bC_rope _⟩
    · rw [if_neg h4, if_neg h4]; exact ⟨w, rfl, Fr.rfl', rfl⟩
  · rw [if_neg h3, if_neg h3]; exact ⟨w, rfl, Fr.rfl', rfl⟩
theorem isR_r {F : Nat} {w : Wd} {r : Nat} (hr : r ≤ 8) (er : gI w 88 3 = nI r) (x : Int32) : P_X11_isRinger F w x = some (if x < 0 then 0 else if nI r ≤ x then 0 else 1, w) := by
  rw [v_X11_isRinger, er]
  by_cases h1 : x < 0
  · rw [if_pos h1, if_pos h1]
  rw [if_neg h1, if_neg h1]
  by_cases h2 : nI r ≤ x
  · have : nI r - 1 < x := by
      rw [Int32.le_iff_toInt_le] at h2
      rw [Int32.lt_iff_toInt_lt, show (1 : Int32) = nI 1 from rfl, pk_sub_toInt (by omega) (by omega)]
      rw [nI_toInt (by omega)] at h2
      omega
    rw [if_pos this, if_pos h2]
  · obtain ⟨i, hi, rfl⟩ : ∃ i, i < r ∧ x = nI i := by
      rcases who hr x with h | h | h
      · exact absurd h h1
      · exact absurd h h2
      · exact h
    rw [if_neg (show ¬ nI r - 1 < nI i from by rw [show nI r - 1 = nI (r - 1) from pk_sub (a := r) (b := 1) (by omega)]; exact nI_nlt (by omega) (by omega)), if_neg h2]
def R8 (a b k : Nat) : Prop := b = a ∧ k = 8
theorem v_X11_leaves {F : Nat} {w : Wd} {r a : Nat} (hr : r ≤ 8) (er : gI w 88 3 = nI r) (ha : isRw a) (x : Int32) : ∃ w2, P_X11_leaves F w a x = some ((lvP r (rM w a) x).1, w2) ∧ Fm (R8 a) w w2 ∧ rM w2 a = (lvP r (rM w a) x).2 := by
  have hl := rw_len ha
  have e8 : rM w a 8 = gI w a 8 := rM_k (by decide)
  unfold P_X11_leaves lvP
  rw [bnd_r (isR_r hr er x), hl]
  simp only [gd1, GL]
  by_cases h1 : x < 0
  · rw [if_pos h1, if_pos rfl, if_pos h1]; exact ⟨w, rfl, Fm.rfl', rfl⟩
  rw [if_neg h1, if_neg h1]
  by_cases h2 : nI r ≤ x
  · rw [if_pos h2, if_pos rfl, if_pos h2]; exact ⟨w, rfl, Fm.rfl', rfl⟩
  rw [if_neg h2, if_neg h2, if_neg (by decide)]
  obtain ⟨i, hi, rfl⟩ : ∃ i, i < r ∧ x = nI i := by
    rcases who hr x with h | h | h
    · exact absurd h h1
    · exact absurd h h2
    · exact h
  rw [bnd_r (v_X11_has F w _ i), nI_clamp (by omega), e8]
  by_cases h3 : bt (gI w a 8) i = 0
  · rw [if_pos h3, if_pos h3]; exact ⟨w, rfl, Fm.rfl', rfl⟩
  · rw [if_neg h3, if_neg h3, lt_v, bnd_r (v_bc F _ _), gIs]
    exact ⟨_, rfl, Fm.rfl'.sI ⟨rfl, rfl⟩, rM_set (by decide)⟩
theorem v_X11_takes {F : Nat} {w : Wd} {r a : Nat} (hr : r ≤ 8) (er : gI w 88 3 = nI r) (ha : isRw a) (hq : okRq (rM w a) r) (x : Int32) : ∃ w2, P_X11_takes F w a x = some ((tkP r (rM w a) x).1, w2) ∧ Fm (R8 a) w w2 ∧ rM w2 a = (tkP r (rM w a) x).2 := by
  have hl := rw_len ha
  have h8 := pow8 hr
  have e8 : rM w a 8 = gI w a 8 := rM_k (by decide)
  obtain ⟨s, s1, s2, s3⟩ := hq
  rw [e8] at s3
  unfold P_X11_takes tkP
  rw [bnd_r (isR_r hr er x), hl]
  simp only [gd1, GL]
  by_cases h1 : x < 0
  · rw [if_pos h1, if_pos rfl, if_pos h1]; exact ⟨w, rfl, Fm.rfl', rfl⟩
  rw [if_neg h1, if_neg h1]
  by_cases h2 : nI r ≤ x
  · rw [if_pos h2, if_pos rfl, if_pos h2]; exact ⟨w, rfl, Fm.rfl', rfl⟩
  rw [if_neg h2, if_neg h2, if_neg (by decide)]
  obtain ⟨i, hi, rfl⟩ : ∃ i, i < r ∧ x = nI i := by
    rcases who hr x with h | h | h
    · exact absurd h h1
    · exact absurd h h2
    · exact h
  rw [bnd_r (v_X11_has F w _ i), nI_clamp (by omega), e8]
  by_cases h3 : bt (gI w a 8) i = 0
  · rw [if_pos h3, if_pos h3, bnd_r (v_bc F _ _), s3]
    by_cases h4 : pc s < 3
    · rw [if_neg (fun q => by have := (bce3 (s := s) (by omega)).mp q; omega), if_pos ((bc3 (by omega)).mpr h4), lt_v, bnd_r (v_bc F _ _), gIs]
      exact ⟨_, rfl, Fm.rfl'.sI ⟨rfl, rfl⟩, rM_set (by decide)⟩
    · rw [if_pos ((bce3 (s := s) (by omega)).mpr (by omega)), if_neg (fun q => h4 ((bc3 (by omega)).mp q))]; exact ⟨w, rfl, Fm.rfl', rfl⟩
  · rw [if_neg h3, if_neg h3]; exact ⟨w, rfl, Fm.rfl', rfl⟩
-- ===== years =====
def drw (r : Nat) (x : Int32) : Nat := (iushrI x 16).toBitVec.toNat % r
theorem ushr16 (x : Int32) : ∃ y : Nat, y < 65536 ∧ iushrI x 16 = nI y ∧ (iushrI x 16).toBitVec.toNat = y := by
  have h := pk_ushr x 16 16 (by decide)
  have hx := x.toBitVec.isLt
  refine ⟨x.toBitVec.toNat / 2 ^ 16, by omega, ?_, h⟩
  apply Int32.toBitVec_inj.mp
  apply BitVec.eq_of_toNat_eq
  refine Eq.trans h ?_
  exact (pk_tn (n := x.toBitVec.toNat / 2 ^ 16) (by omega)).symm
theorem drw_e {r : Nat} (h1 : 1 ≤ r) (hr : r ≤ 8) (x : Int32) : iremI (iushrI x 16) (nI r) = nI (drw r x) ∧ drw r x < r := by
  obtain ⟨y, hy, ey, ey2⟩ := ushr16 x
  unfold drw
  rw [ey2, ey]
  exact ⟨pk_rem (by omega) (by omega) (by omega), Nat.mod_lt _ (by omega)⟩
/-- one leaves the rope, or takes it -/
def tog (b : Bl) (i : Nat) : Bl := if bt (b 8) i = 0 then (if bc (b 8) < 3 then setR b (b 8 ^^^ bit1 i) else b) else setR b (b 8 ^^^ bit1 i)
def nxt (x : Int32) : Int32 := x * 1103515245 + 12345
def yrp (T : Tw) (r : Nat) (_ : Nat) (q : Int32 × Bl) : Int32 × Bl := (nxt q.1, mi T (tog q.2 (drw r (nxt q.1))))
def yrs (T : Tw) (b : Bl) (r : Nat) (x y : Int32) : Bl := (foldU (yrp T r) y.toNatClampNeg 0 (x, b)).2
def tirS (b : Bl) : Int32 := sumR b 0 8
def qYears (T : Tw) (b : Bl) (r : Nat) (x y : Int32) : Ans := qR y 1 300 (if r = 0 then (-1, none) else (yrs T b r x y 13 - b 13, some [i64 (yrs T b r x y 11 - b 11), i64 (tirS (yrs T b r x y)), i64 (bc (yrs T b r x y 15))]))
theorem tog_ok {r i : Nat} (hr : r ≤ 8) (hi : i < r) {b : Bl} (h : okRq b r) : okRq (tog b i) r ∧ ∃ s, s < 2 ^ r ∧ tog b i = setR b (nI s) := by
  have h8 := pow8 hr
  obtain ⟨s, h1, h2, h3⟩ := h
  have hs : b = setR b (nI s) := by rw [← h3]; exact (setR_same b).symm
  obtain ⟨d1, d2, d3, d4⟩ := ropes s (by omega) i (by omega)
  unfold tog
  rw [h3]
  split
  · rename_i hb
    obtain ⟨e1, e2, e3, e4⟩ := d2 hb
    split
    · rename_i h4
      have := (bc3 (s := s) (by omega)).mp h4
      rw [e2]
      exact ⟨setR_okRq (add_p r (by omega) s h1 i hi hb) (by omega), _, add_p r (by omega) s h1 i hi hb, rfl⟩
    · exact ⟨⟨s, h1, h2, h3⟩, s, h1, hs⟩
  · rename_i hb
    rw [d3 hb]
    exact ⟨setR_okRq (clr_p hr h1 hi) (by omega), _, clr_p hr h1 hi, rfl⟩
theorem okRq_mi {T : Tw} {b : Bl} {r : Nat} (h : okRq b r) : okRq (mi T b) r := by
  obtain ⟨s, h1, h2, h3⟩ := h
  exact ⟨s, h1, h2, by rw [mi_e (by decide)]; exact h3⟩
theorem v_X1_tiredTogether {F : Nat} (hF : 100 ≤ F) (w : Wd) (a : Nat) : P_X1_tiredTogether F w a = some (tirS (bC w a), w) := by
  have key : ∀ m j, j + m = 8 → ∀ n, m < n → ∀ x, L_X1_tiredTogether_4 F a (fun w x4 => some (x4, w)) n w x (nI j) = some (x + sumR (bC w a) j m, w) := by
    intro m
    induction m with
    | zero =>
      intro j hj n hn x
      obtain ⟨n, rfl⟩ : ∃ q, n = q + 1 := ⟨n - 1, by omega⟩
      rw [L_X1_tiredTogether_4, if_pos (n8le (by omega) (lt31 (by omega)))]
      show some (x, w) = some (x + 0, w)
      rw [add0]
    | succ m ih =>
      intro j hj n hn x
      obtain ⟨n, rfl⟩ : ∃ q, n = q + 1 := ⟨n - 1, by omega⟩
      rw [L_X1_tiredTogether_4, if_neg (n8gt (by omega)), gd_t (inB_n (show j < 8 by omega) (lt31 (by omega))), lt_v, lt_v, nI_1, nI_clamp (lt31 (by omega)), ih (j + 1) (by omega) n (by omega), addA]
      have : bC w a j = gI w (a + 1) j := by unfold bC; rw [if_pos (by omega)]
      rw [← this]
      rfl
  refine (key 8 0 rfl F (by omega) 0).trans ?_
  rw [zadd]
  rfl
theorem lpK {κ σ R : Type} (L : κ → Nat → Wd → σ → Int32 → Option R) (kA : κ → Wd → σ → Option R) (f : Nat → σ → σ) (I : Wd → σ → Nat → Prop) (M : Nat)
    (h0 : ∀ k n w s, I w s M → L k (n + 1) w s (nI M) = kA k w s)
    (h1 : ∀ n w s j, j < M → I w s j → ∃ w2, (∀ k, L k (n + 1) w s (nI j) = L k n w2 (f j s) (nI (j + 1))) ∧ I w2 (f j s) (j + 1)) :
    ∀ m j, j + m = M → ∀ n, m < n → ∀ w s, I w s j → ∃ w2, (∀ k, L k n w s (nI j) = kA k w2 (foldU f m j s)) ∧ I w2 (foldU f m j s) M := by
  intro m
  induction m with
  | zero =>
    intro j hj n hn w s hI
    obtain ⟨n, rfl⟩ : ∃ q, n = q + 1 := ⟨n - 1, by omega⟩
    obtain rfl : j = M := by omega
    exact ⟨w, fun k => h0 k n w s hI, hI⟩
  | succ m ih =>
    intro j hj n hn w s hI
    obtain ⟨n, rfl⟩ : ∃ q, n = q + 1 := ⟨n - 1, by omega⟩
    obtain ⟨w2, e1, e2⟩ := h1 n w s j (by omega) hI
    obtain ⟨w3, f1, f2⟩ := ih (j + 1) (by omega) n (by omega) w2 _ e2
    exact ⟨w3, fun k => (e1 k).trans (f1 k), f2⟩
theorem l_X10_years {F : Nat} (hF : 2000 ≤ F) {w : Wd} (s : St w) {r : Nat} (hr : r ≤ 8) (h0 : 1 ≤ r) (x : Int32) (n : Nat) (hn : n ≤ 300) (w0 : Wd) (b : Bl) (e1 : Sim w w0 b) (hq : okRq b r) : ∃ w2, (∀ k, L_X10_years_47 F x (nI n) (nI r) k F w0 x 0 = k w2) ∧ Sim w w2 (foldU (yrp (tC w 5) r) n 0 (x, b)).2 := by
  have h8 := pow8 hr
  obtain ⟨w2, f1, f2, f3⟩ := lpK (fun (k : Wd → Option (Int32 × Wd)) m w (s : Int32 × Bl) i => L_X10_years_47 F x (nI n) (nI r) k m w s.1 i) (fun k w _ => k w) (yrp (tC w 5) r) (fun u s _ => Sim w u s.2 ∧ okRq s.2 r) n
    (fun k m u s hI => by
      show L_X10_years_47 F x (nI n) (nI r) k (m + 1) u _ _ = _
      rw [L_X10_years_47, if_pos (Int32.le_refl _)])
    (fun m u q j hj hI => by
      obtain ⟨x0, b⟩ := q
      obtain ⟨hI1, hI2⟩ := hI
      have hI1 : Sim w u b := hI1
      have hI2 : okRq b r := hI2
      show ∃ w2, (∀ k, L_X10_years_47 F x (nI n) (nI r) k (m + 1) u x0 _ = L_X10_years_47 F x (nI n) (nI r) k m w2 _ _) ∧ _
      have k1 : gI u 25 1 = b 8 := by rw [← hI1.2]; rfl
      obtain ⟨d1, d2⟩ := drw_e (show 1 ≤ r by omega) hr (nxt x0)
      obtain ⟨t1, -⟩ := tog_ok hr d2 hI2
      obtain ⟨t, t2, t3, t4⟩ := hI2
      obtain ⟨-, -, -, g4⟩ := ropes t (by omega) (drw r (nxt x0)) (by omega)
      have fin : ∀ (v : Wd), Sim w v (tog b (drw r (nxt x0))) → ∃ w2, (∀ k, K_X10_years_129 F x (nI n) (nI r) k (L_X10_years_47 F x (nI n) (nI r) k m) v (nxt x0) (nI j) = L_X10_years_47 F x (nI n) (nI r) k m w2 (yrp (tC w 5) r j (x0, b)).1 (nI (j + 1))) ∧ Sim w w2 (yrp (tC w 5) r j (x0, b)).2 ∧ okRq (yrp (tC w 5) r j (x0, b)).2 r := by
        intro v hv
        obtain ⟨v2, q1, q2⟩ := sim_minute (F := F) (by omega) 5 s.1 hv
        refine ⟨v2, fun k => ?_, q2, okRq_mi t1⟩
        unfold K_X10_years_129
        rw [bnv_r q1, lt_v, nI_1]
        rfl
      have hset : Sim w (sI u 25 1 (nI t ^^^ bit1 (drw r (nxt x0)))) (setR b (b 8 ^^^ bit1 (drw r (nxt x0)))) := by rw [t4]; exact sim_rope hI1 _
      have hstep : ∀ k, L_X10_years_47 F x (nI n) (nI r) k (m + 1) u x0 (nI j) = if (if nI t &&& bit1 (drw r (nxt x0)) = 0 then (0 : Int32) else 1) = 0 then bnd (P_J6_bitCount_0f7a4 F u (nI t)) (fun x27 w26 => (if (3 : Int32) ≤ x27 then K_X10_years_129 F x (nI n) (nI r) k (L_X10_years_47 F x (nI n) (nI r) k m) w26 (nxt x0) (nI j) else K_X10_years_115 F x (nI n) (nI r) k (L_X10_years_47 F x (nI n) (nI r) k m) w26 (nxt x0) (nI j) (bit1 (drw r (nxt x0))))) else K_X10_years_115 F x (nI n) (nI r) k (L_X10_years_47 F x (nI n) (nI r) k m) u (nxt x0) (nI j) (bit1 (drw r (nxt x0))) := fun k => by
        rw [L_X10_years_47, if_neg (nI_ge hj (by omega)), lt_v, gd_t (show neZ (nI r) = true by unfold neZ; rw [decide_eq_false (nI_ne0 (by omega) (by omega))]; rfl), show x0 * 1103515245 + 12345 = nxt x0 from rfl, d1, lt_v, lt_v, k1, t4]
        rfl
      have h115 : ∀ k, K_X10_years_115 F x (nI n) (nI r) k (L_X10_years_47 F x (nI n) (nI r) k m) u (nxt x0) (nI j) (bit1 (drw r (nxt x0))) = K_X10_years_129 F x (nI n) (nI r) k (L_X10_years_47 F x (nI n) (nI r) k m) (sI u 25 1 (nI t ^^^ bit1 (drw r (nxt x0)))) (nxt x0) (nI j) := fun k => by
        unfold K_X10_years_115
        rw [lt_v, k1, t4]
      by_cases c : bt (nI t) (drw r (nxt x0)) = 0
      · have c' : nI t &&& bit1 (drw r (nxt x0)) = 0 := by rw [g4]; exact c
        by_cases c2 : bc (nI t) < 3
        · have : tog b (drw r (nxt x0)) = setR b (b 8 ^^^ bit1 (drw r (nxt x0))) := by unfold tog; rw [t4, if_pos c, if_pos c2]
          rw [← this] at hset
          obtain ⟨v2, q1, q2⟩ := fin _ hset
          exact ⟨v2, fun k => by rw [hstep, if_pos c', if_pos rfl, bnd_r (v_bc F u _), if_neg (Int32.not_le.mpr c2), h115]; exact q1 k, q2⟩
        · have : tog b (drw r (nxt x0)) = b := by unfold tog; rw [t4, if_pos c, if_neg c2]
          obtain ⟨v2, q1, q2⟩ := fin u (by rw [this]; exact hI1)
          exact ⟨v2, fun k => by rw [hstep, if_pos c', if_pos rfl, bnd_r (v_bc F u _), if_pos (Int32.not_lt.mp c2)]; exact q1 k, q2⟩
      · have c' : ¬ nI t &&& bit1 (drw r (nxt x0)) = 0 := by rw [g4]; exact c
        have : tog b (drw r (nxt x0)) = setR b (b 8 ^^^ bit1 (drw r (nxt x0))) := by unfold tog; rw [t4, if_neg c]
        rw [← this] at hset
        obtain ⟨v2, q1, q2⟩ := fin _ hset
        exact ⟨v2, fun k => by rw [hstep, if_neg c', if_neg (by decide), h115]; exact q1 k, q2⟩)
    n 0 (by omega) F (by omega) w0 (x, b) ⟨e1, hq⟩
  exact ⟨w2, f1, f2⟩
theorem v_X10_years {F : Nat} (hF : 2000 ≤ F) {w : Wd} (s : St w) {r : Nat} (hr : r ≤ 8) (er : gI w 6 2 = nI r) (hq : okRq (bC w 23) r) (x y : Int32) : AskC (P_X10_years F w x y) (qYears (tC w 5) (bC w 23) r x y) w := by
  have h8 := pow8 hr
  unfold P_X10_years qYears
  rw [lt_v, er]
  refine askC_q (fun h1 h2 => ?_)
  by_cases h0 : r = 0
  · subst h0
    rw [if_pos rfl, if_neg (show ¬ (1 : Int32) ≤ nI 0 by decide)]
    exact ask_n (p := SP) Fr.rfl' (fun b h => SP_n h)
  rw [if_neg h0, if_pos (show (1 : Int32) ≤ nI r from nI_le (a := 1) (b := r) (by omega) (by omega))]
  obtain ⟨n, hn1, hn2, rfl⟩ := rng h1 h2 (A := 1) (B := 300)
  obtain ⟨w0, e0, e1, -⟩ := sim_start (F := F) (by omega) (w := w) (w1 := w) Fr.rfl'
  unfold yrs
  rw [bnv_r e0, nI_clamp (by omega)]
  obtain ⟨w2, f1, f2⟩ := l_X10_years hF s hr (by omega) x n hn2 w0 _ e1 hq
  rw [f1]
  generalize foldU (yrp (tC w 5) r) n 0 (x, bC w 23) = q at *
  have k23 : ∀ k, gI w2 23 k = gI w 23 k := (f2.1 23 (by unfold SP Scr; omega)).1
  have k4 : gI w2 25 4 = q.2 11 := by rw [← f2.2]; rfl
  have k6 : gI w2 25 6 = q.2 13 := by rw [← f2.2]; rfl
  have k8 : gI w2 25 8 = q.2 15 := by rw [← f2.2]; rfl
  rw [bnd_r (v_X1_tiredTogether (by omega) w2 25), bnd_r (v_bc F w2 _), f2.2, k4, k23, k8]
  obtain ⟨w3, c1, c2, c3⟩ := v_X10_tell3 F w2 (Int32.toInt64 (q.2 11 - gI w 23 4)) (Int32.toInt64 (tirS q.2)) (Int32.toInt64 (bc (q.2 15)))
  rw [bnv_r c1, (c2 25 (by omega)).1, (c2 23 (by omega)).1, k6, k23]
  exact ask_t (f2.1.imp (fun b h => SP_QP h)) c2 c3
theorem full_bt : ∀ r : Nat, r < 9 → ∀ k : Nat, k < r → ¬ bt (nI (2 ^ r - 1)) k = 0 := by decide +kernel
theorem l_X11_years {F : Nat} (hF : 2000 ≤ F) {w : Wd} {T : Tw} {b : Bl} {r p N : Nat} (g : MG w T b r p N) (hq : okRq b r) (h0 : 1 ≤ r) (x : Int32) (n : Nat) (hn : n ≤ 300) (w0 : Wd) (d2 : MS w w0 b) : ∃ w2, (∀ k, L_X11_years_38 F x (nI n) k F w0 x 0 0 = k w2 ((foldU (yrp T r) n 0 (x, b)).2 11 - b 11)) ∧ MS w w2 (foldU (yrp T r) n 0 (x, b)).2 ∧ zB (foldU (yrp T r) n 0 (x, b)).2 r := by
  have hr := g.1.1
  have h8 := pow8 hr
  have Q8 : ∀ {a k}, R8 96 a k → QN a k := fun h => .inr (.inl h.1)
  obtain ⟨w2, f1, f2, f3, f4⟩ := lpK (fun (k : Wd → Int32 → Option (Int32 × Wd)) m w (s : Int32 × Bl) i => L_X11_years_38 F x (nI n) k m w s.1 (s.2 11 - b 11) i) (fun k w s => k w (s.2 11 - b 11)) (yrp T r) (fun u s _ => MS w u s.2 ∧ okRq s.2 r ∧ zB s.2 r) n
    (fun k m u s hI => by
      show L_X11_years_38 F x (nI n) k (m + 1) u _ _ _ = _
      rw [L_X11_years_38, if_pos (Int32.le_refl _)])
    (fun m u q j hj hI => by
      obtain ⟨x0, c⟩ := q
      obtain ⟨hI1, hI2, hI3⟩ := hI
      have hI1 : MS w u c := hI1
      have hI2 : okRq c r := hI2
      have hI3 : zB c r := hI3
      show ∃ w2, (∀ k, L_X11_years_38 F x (nI n) k (m + 1) u x0 (c 11 - b 11) _ = L_X11_years_38 F x (nI n) k m w2 _ _ _) ∧ _
      have gu := MG_QN g hI1.1
      obtain ⟨a1, a2⟩ := drw_e (show 1 ≤ r by omega) hr (nxt x0)
      obtain ⟨t1, ts, t1a, t1b⟩ := tog_ok hr a2 hI2
      obtain ⟨u1, l1, l2, l3⟩ := v_X11_leaves (F := F) hr gu.2.1.1 (a := 96) (.inr (.inl rfl)) (nI (drw r (nxt x0)))
      rw [hI1.2] at l1 l3
      have m1 : MS w u1 (lvP r c (nI (drw r (nxt x0)))).2 := ⟨hI1.1.tr (l2.imp (fun _ _ h => Q8 h)), l3⟩
      have hz : zB (tog c (drw r (nxt x0))) r := by rw [t1b]; exact zB_set hr hI3 t1a
      have e11 : (tog c (drw r (nxt x0))) 11 = c 11 := by rw [t1b]; rfl
      have hstep : ∀ k, L_X11_years_38 F x (nI n) k (m + 1) u x0 (c 11 - b 11) (nI j) = if (0 : Int32) ≤ (lvP r c (nI (drw r (nxt x0)))).1 then K_X11_years_89 F x (nI n) k (L_X11_years_38 F x (nI n) k m) u1 (nxt x0) (c 11 - b 11) (nI j) else bnd (P_X11_takes F u1 96 (nI (drw r (nxt x0)))) (fun x30 w29 => K_X11_years_89 F x (nI n) k (L_X11_years_38 F x (nI n) k m) w29 (nxt x0) (c 11 - b 11) (nI j)) := fun k => by
        rw [L_X11_years_38, if_neg (nI_ge hj (by omega)), lt_v, gu.2.1.1, gd_t (show neZ (nI r) = true by unfold neZ; rw [decide_eq_false (nI_ne0 (by omega) (by omega))]; rfl), show x0 * 1103515245 + 12345 = nxt x0 from rfl, a1, lt_v, bnd_r l1]
      have fin : ∀ (v : Wd), MS w v (tog c (drw r (nxt x0))) → ∃ w2, (∀ k, K_X11_years_89 F x (nI n) k (L_X11_years_38 F x (nI n) k m) v (nxt x0) (c 11 - b 11) (nI j) = L_X11_years_38 F x (nI n) k m w2 (yrp T r j (x0, c)).1 ((yrp T r j (x0, c)).2 11 - b 11) (nI (j + 1))) ∧ MS w w2 (yrp T r j (x0, c)).2 ∧ okRq (yrp T r j (x0, c)).2 r ∧ zB (yrp T r j (x0, c)).2 r := by
        intro v hv
        obtain ⟨v2, q1, q2⟩ := ms_minute (F := F) (by omega) g hv hz
        refine ⟨v2, fun k => ?_, q2, okRq_mi t1, zB_mi hz⟩
        unfold K_X11_years_89
        rw [bnd_r q1, bnd_r (v_X11_flag F v2 _), lt_v, lt_v, nI_1]
        have e : c 11 - b 11 + (if (if loudT T (tog c (drw r (nxt x0))) (tog c (drw r (nxt x0)) 8) ≤ 0 then (0 : Int32) else 1) = 0 then 0 else 1) = mi T (tog c (drw r (nxt x0))) 11 - b 11 := by
          rw [mi_11, e11]
          split
          · rw [if_pos rfl, add0, add0]
          · rw [if_neg (by decide), Int32.sub_eq_add_neg, Int32.sub_eq_add_neg, Int32.add_assoc, Int32.add_assoc, Int32.add_comm (-(b 11))]
        rw [e]
        rfl
      obtain ⟨t, t2, t3, t4⟩ := hI2
      have hlv : lvP r c (nI (drw r (nxt x0))) = if bt (c 8) (drw r (nxt x0)) = 0 then (-2, c) else (bc (c 8 &&& (bit1 (drw r (nxt x0)) ^^^ (-1))), setR c (c 8 &&& (bit1 (drw r (nxt x0)) ^^^ (-1)))) := by
        unfold lvP
        rw [if_neg (nI_pos (by omega)), if_neg (nI_ge a2 (by omega)), nI_clamp (by omega)]
      have htk : tkP r c (nI (drw r (nxt x0))) = if bt (c 8) (drw r (nxt x0)) = 0 then (if bc (c 8) < 3 then (bc (c 8 ||| bit1 (drw r (nxt x0))), setR c (c 8 ||| bit1 (drw r (nxt x0)))) else (-3, c)) else (-2, c) := by
        unfold tkP
        rw [if_neg (nI_pos (by omega)), if_neg (nI_ge a2 (by omega)), nI_clamp (by omega)]
      obtain ⟨g1, g2, g3, -⟩ := ropes t (by omega) (drw r (nxt x0)) (by omega)
      obtain ⟨cl1, cl2⟩ := clr_e t (by omega) (drw r (nxt x0)) (by omega)
      by_cases c1 : bt (c 8) (drw r (nxt x0)) = 0
      · rw [if_pos c1] at hlv
        rw [hlv] at m1
        have m1 : MS w u1 c := m1
        obtain ⟨u2, k1, k2, k3⟩ := v_X11_takes (F := F) hr (MG_QN g m1.1).2.1.1 (a := 96) (.inr (.inl rfl)) (by rw [m1.2]; exact ⟨t, t2, t3, t4⟩) (nI (drw r (nxt x0)))
        rw [m1.2] at k1 k3
        obtain ⟨v2, q1, q2⟩ := fin u2 ⟨m1.1.tr (k2.imp (fun _ _ h => Q8 h)), by
          rw [k3, htk, if_pos c1]
          unfold tog
          rw [if_pos c1, t4]
          rw [t4] at c1
          obtain ⟨e1, e2, e3, e4⟩ := g2 c1
          by_cases c2 : bc (nI t) < 3
          · rw [if_pos c2, if_pos c2, e1, e2]
          · rw [if_neg c2, if_neg c2]⟩
        exact ⟨v2, fun k => by rw [hstep, hlv, if_neg (show ¬ (0 : Int32) ≤ -2 by decide), bnd_r k1]; exact q1 k, q2⟩
      · rw [if_neg c1] at hlv
        rw [hlv] at m1
        have hpos : (0 : Int32) ≤ bc (c 8 &&& (bit1 (drw r (nxt x0)) ^^^ (-1))) := by
          rw [t4, cl1, bc_pc cl2]
          have := pc_le cl2
          exact nI_pos' (by omega)
        obtain ⟨v2, q1, q2⟩ := fin u1 ⟨m1.1, by
          rw [m1.2]
          unfold tog
          rw [if_neg c1, t4]
          rw [t4] at c1
          rw [g3 c1, cl1]⟩
        exact ⟨v2, fun k => by rw [hstep, hlv, if_pos hpos]; exact q1 k, q2⟩)
    n 0 (by omega) F (by omega) w0 (x, b) ⟨d2, hq, g.2.2.2⟩
  refine ⟨w2, fun k => ?_, f2, f4⟩
  have := f1 k
  have e0 : ((x, b) : Int32 × Bl).2 11 - b 11 = 0 := Int32.sub_self _
  rw [e0] at this
  exact this
theorem v_X11_years {F : Nat} (hF : 2000 ≤ F) {w : Wd} {T : Tw} {b : Bl} {r p N : Nat} (g : MG w T b r p N) (hq : okRq b r) (x y : Int32) : AskM (P_X11_years F w x y) (qYears T b r x y) w := by
  have hr := g.1.1
  have g0 := MG_QN g fm_t0
  unfold P_X11_years qYears
  rw [lt_v, in_r F _ y 1 300]
  refine askM_r fm_t0 (fun h1 h2 => ?_)
  rw [g0.2.1.1]
  by_cases h0 : r = 0
  · subst h0
    rw [if_pos (show nI 0 = 0 from rfl), if_pos rfl]
    exact am_n fm_t0
  rw [if_neg (nI_ne0 (by omega) (by omega)), if_neg h0]
  obtain ⟨n, hn1, hn2, rfl⟩ := rng h1 h2 (A := 1) (B := 300)
  obtain ⟨w0, d1, d2⟩ := ms_puts (F := F) (by omega) (fm_t0 (w := w))
  rw [g.2.2.1] at d2
  unfold yrs
  rw [bnv_r d1, nI_clamp (by omega)]
  simp only [gd1, GL]
  obtain ⟨w2, f1, f2, f4⟩ := l_X11_years hF g hq (by omega) x n hn2 w0 d2
  rw [f1]
  generalize foldU (yrp T r) n 0 (x, b) = q at *
  rw [lt_v]
  obtain ⟨u1, c1, c2, c3⟩ := v_X11_enters F (w := sI w2 88 1 0) tlM_0 (by decide) (Int32.toInt64 (q.2 11 - b 11))
  have c4 : Fm Tm w2 u1 := (show Fm Tm w2 _ from Fm.rfl'.sI (.inl ⟨rfl, rfl⟩)).tr c2
  have gu1 := MG_QM g ((f2.1.imp (fun _ _ h => QN_QM h)).tr (c4.imp (fun _ _ h => Tm_QM h)))
  have k96 : ∀ {u : Wd}, Fm Tm w2 u → rM u 96 = q.2 := fun h => by rw [rM_fr h (fun k _ h => Tm96 h)]; exact f2.2
  have hs : P_X11_sumOf F u1 (ishlI 1 (gI u1 88 3) - 1) 96 = some (tirS q.2, u1) := by
    rw [gu1.2.1.1, shl_all r hr, v_X11_sumOf (by omega) (by decide) hr gu1.2.1.1, sumR_upto (g := q.2) hr (fun i hi => by rw [if_neg (full_bt r (by omega) i hi), ← k96 c4, rM_k (by omega)]) (fun i h1 h2 => (f4.1 i h1 h2).1)]
    rfl
  obtain ⟨u2, e1, e2, e3⟩ := v_X11_enters F (L := [_]) c3 (show 1 < 24 by decide) (Int32.toInt64 (tirS q.2))
  have e4 := c4.tr e2
  have k15 : gI u2 96 15 = q.2 15 := by rw [← k96 e4, rM_k (by decide)]
  obtain ⟨u3, h1', h2', h3'⟩ := v_X11_enters F (L := [_, _]) e3 (show 2 < 24 by decide) (Int32.toInt64 (bc (q.2 15)))
  have h4' := e4.tr h2'
  rw [bnv_r c1, bnd_r hs, bnv_r e1, bnd_r (v_bc F u2 _), k15, bnv_r h1']
  have k13 : gI u3 96 13 = q.2 13 := by rw [← k96 h4', rM_k (by decide)]
  have k95 : gI u3 95 13 = b 13 := now_k g ((f2.1.imp (fun _ _ h => QN_QM h)).tr (h4'.imp (fun _ _ h => Tm_QM h))) (by decide)
  rw [k13, k95]
  exact am_t f2.1 h4' h3'
