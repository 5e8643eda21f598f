/-- a set without one -/
def clr (s i : Nat) : Nat := if s.testBit i then s - 2 ^ i else s
def pc (s : Nat) : Nat := (bc (nI s)).toNatClampNeg
theorem bc_pc {s : Nat} (h : s < 256) : bc (nI s) = nI (pc s) := by
  obtain ⟨⟨c, h1, h2⟩, -⟩ := bc_all s h
  unfold pc
  rw [h2, nI_clamp (by omega)]
theorem pc_le {s : Nat} (h : s < 256) : pc s ≤ 8 := by
  obtain ⟨⟨c, h1, h2⟩, -⟩ := bc_all s h
  unfold pc
  rw [h2, nI_clamp (by omega)]
  exact h1
theorem clr_e : ∀ s : Nat, s < 256 → ∀ i : Nat, i < 8 → nI s &&& (bit1 i ^^^ (-1)) = nI (clr s i) ∧ clr s i < 256 := by decide +kernel
