-- ===== the night: what was noted, what fits =====
abbrev Nf : Type := Nat → Nat → Int32
def NtC (w : Wd) (c : Nat) (f : Nf) : Prop := gI w 76 3 = nI c ∧ c ≤ 12 ∧ ∀ i, i < c → gI w 77 i = f 0 i ∧ gI w 78 i = f 1 i ∧ gI w 79 i = f 2 i
def okNf (c : Nat) (f : Nf) : Prop := ∀ i, i < c → f 2 i = 0 ∨ f 2 i = 1
theorem NtC_fr {q : Nat → Prop} {w w2 : Wd} {c : Nat} {f : Nf} (h : NtC w c f) (fr : Fr q w w2) (hq : ∀ b, q b → ¬ (76 ≤ b ∧ b ≤ 79)) : NtC w2 c f := by
  obtain ⟨h1, h2, h3⟩ := h
  have g : ∀ a k, 76 ≤ a → a ≤ 79 → gI w2 a k = gI w a k := fun a k x y => (fr a (fun h => hq a h ⟨x, y⟩)).1 k
  exact ⟨by rw [g 76 3 (by decide) (by decide)]; exact h1, h2, fun i hi => by rw [g 77 i (by decide) (by decide), g 78 i (by decide) (by decide), g 79 i (by decide) (by decide)]; exact h3 i hi⟩
