-- ===== team, on the model's side =====
theorem bc_all : ∀ j : Nat, j < 256 → (∃ c : Nat, c ≤ 8 ∧ bc (nI j) = nI c) ∧ (1 ≤ j → ¬ bc (nI j) ≤ 0) := by
  intro j hj
  have h : ∀ j : Nat, j < 256 → bc (nI j) = nI (bc (nI j)).toNatClampNeg ∧ (bc (nI j)).toNatClampNeg ≤ 8 ∧ (1 ≤ j → ¬ bc (nI j) ≤ 0) := by decide +kernel
  obtain ⟨a, b, c⟩ := h j hj
  exact ⟨⟨_, b, a⟩, c⟩
