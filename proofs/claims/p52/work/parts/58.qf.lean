-- ===== who doubts in the end: sets as numbers =====
theorem nI_or (a b : Nat) : nI (a ||| b) = nI a ||| nI b := Int32.toBitVec_inj.1 (BitVec.ofNat_or)
/-- a set without one -/
def clr (s i : Nat) : Nat := if s.testBit i then s - 2 ^ i else s
def pc (s : Nat) : Nat := (bc (nI s)).toNatClampNeg
theorem bc_pc {s : Nat} (h : s < 256) : bc (nI s) = nI (pc s) := by
  obtain ⟨⟨c, h1, h2⟩, -⟩ := bc_all s h
  unfold pc
  rw [h2, nI_clamp (by omega)]
theorem pc_le {s : Nat} (h : s < 256) : pc s ≤ 8 := by
  obtain ⟨⟨c, h1, h2⟩, -⟩ := bc_all s h
  unfold pc
  rw [h2, nI_clamp (by omega)]
  exact h1
theorem clr_e : ∀ s : Nat, s < 256 → ∀ i : Nat, i < 8 → nI s &&& (bit1 i ^^^ (-1)) = nI (clr s i) ∧ clr s i < 256 := by decide +kernel
/-- one set within another -/
def sub8 (s t : Nat) : Prop := ∀ k, k < 8 → s.testBit k = true → t.testBit k = true
theorem or_256 {a b : Nat} (ha : a < 256) (hb : b < 256) : a ||| b < 256 := Nat.or_lt_two_pow (n := 8) ha hb
-- who is moved, as a number
def cnb (nd : Nat → Nat) (s i : Nat) : Bool := decide (¬ nd i = 0) && decide (nd i ≤ pc (clr s i))
/-- bits of those of so many, from one on, for whom it holds -/
def orN (f : Nat → Bool) : Nat → Nat → Nat
  | _, 0 => 0
  | j, m + 1 => (if f j then 2 ^ j else 0) ||| orN f (j + 1) m
theorem orN_lt (f : Nat → Bool) : ∀ m j, j + m ≤ 8 → orN f j m < 256 := by
  intro m
  induction m with
  | zero => intro j _; exact (by decide : 0 < 256)
  | succ m ih =>
    intro j hj
    refine or_256 ?_ (ih (j + 1) (by omega))
    split
    · exact Nat.pow_lt_pow_right (n := 8) (by decide) (show j < 8 by omega)
    · decide
theorem orN_bit (f : Nat → Bool) : ∀ m j k, (orN f j m).testBit k = (f k && decide (j ≤ k ∧ k < j + m)) := by
  intro m
  induction m with
  | zero =>
    intro j k
    show Nat.testBit 0 k = _
    rw [Nat.zero_testBit, decide_eq_false (by omega), Bool.and_false]
  | succ m ih =>
    intro j k
    show ((if f j then 2 ^ j else 0) ||| orN f (j + 1) m).testBit k = _
    rw [Nat.testBit_or, ih]
    by_cases hk : k = j
    · subst hk
      rw [decide_eq_false (show ¬ (k + 1 ≤ k ∧ k < k + 1 + m) by omega), Bool.and_false, Bool.or_false, decide_eq_true (show k ≤ k ∧ k < k + (m + 1) by omega), Bool.and_true]
      cases f k
      · exact Nat.zero_testBit k
      · show Nat.testBit (2 ^ k) k = true
        rw [Nat.testBit_two_pow]; simp
    · have e : (if f j then 2 ^ j else 0).testBit k = false := by
        split
        · rw [Nat.testBit_two_pow]; simp; omega
        · exact Nat.zero_testBit k
      rw [e, Bool.false_or]
      congr 1
      exact decide_eq_decide.mpr (by omega)
theorem orR_N {g : Nat → Int32} {f : Nat → Bool} : ∀ m j, j + m ≤ 8 → (∀ i, j ≤ i → i < j + m → g i = if f i then bit1 i else 0) → orR g j m = nI (orN f j m) := by
  intro m
  induction m with
  | zero => intro j _ _; rfl
  | succ m ih =>
    intro j hj h
    show g j ||| orR g (j + 1) m = nI ((if f j then 2 ^ j else 0) ||| orN f (j + 1) m)
    rw [nI_or, ih (j + 1) (by omega) (fun i h1 h2 => h i (by omega) (by omega)), h j (Nat.le_refl _) (by omega)]
    congr 1
    cases f j
    · rfl
    · exact bit1_N j (by omega)
def mvN (nd : Nat → Nat) (s : Nat) : Nat := orN (cnb nd s) 0 8
def ndT (T : Tw) (i : Nat) : Nat := (T 3 i).toNatClampNeg
theorem nd_e {T : Tw} {r p N : Nat} (ok : okTw T r p N) (i : Nat) : T 3 i = nI (ndT T i) ∧ ndT T i ≤ 9 ∧ (p ≤ i → ndT T i = 0) := by
  obtain ⟨f, hf, ef⟩ := ok.2.2.2.2.2.2.2.2.2.1 i
  have h : ndT T i = f := by unfold ndT; rw [ef, nI_clamp (by omega)]
  refine ⟨by rw [h]; exact ef, by omega, fun hp => ?_⟩
  rw [h]
  have := (ok.2.2.2.2.2.2.2.1 i hp).2
  rw [ef] at this
  exact (nI_eq (a := f) (b := 0) (by omega) (by decide)).mp this
theorem mov_N {T : Tw} {r p N : Nat} (ok : okTw T r p N) {s : Nat} (hs : s < 256) : movT T (nI s) = nI (mvN (ndT T) s) := by
  unfold movT mvN
  refine orR_N 8 0 (by decide) (fun i _ hi => ?_)
  obtain ⟨h1, h2, -⟩ := nd_e ok i
  rw [h1, (clr_e s hs i (by omega)).1, bc_pc (clr_e s hs i (by omega)).2]
  have h3 := pc_le (clr_e s hs i (by omega)).2
  unfold cnb
  by_cases a : ndT T i = 0
  · rw [if_pos (by rw [a]; rfl), decide_eq_false (fun h => h a)]; rfl
  · rw [if_neg (nI_ne0 (by omega) (by omega)), decide_eq_true a, Bool.true_and]
    by_cases b : ndT T i ≤ pc (clr s i)
    · rw [if_pos (nI_le b (by omega)), decide_eq_true b]; rfl
    · rw [if_neg (nI_ge (by omega) (by omega)), decide_eq_false b]; rfl
theorem sub_lt {s p : Nat} (hp : p ≤ 8) (hs : s < 256) (h : sub8 s (2 ^ p - 1)) : s < 2 ^ p := by
  have h8 := pow8 hp
  apply Nat.lt_pow_two_of_testBit
  intro i hi
  by_cases h1 : i < 8
  · cases e : s.testBit i
    · rfl
    · have := h i h1 e
      rw [Nat.testBit_two_pow_sub_one] at this
      have := of_decide_eq_true this
      omega
  · exact Nat.testBit_lt_two_pow (Nat.lt_of_lt_of_le hs (show 256 ≤ 2 ^ i from Nat.pow_le_pow_right (n := 2) (by decide) (show 8 ≤ i by omega)))
