theorem mi_12N {T : Tw} {b : Bl} {s : Nat} (h : b 12 = nI s) : ∃ t, t ≤ s + 1 ∧ mi T b 12 = nI t := by
  rw [mi_e (by decide), mi0_12, h]
  split
  · exact ⟨s + 1, Nat.le_refl _, nI_1 _⟩
  · exact ⟨0, by omega, rfl⟩
