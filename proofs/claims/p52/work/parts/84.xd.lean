-- ===== keep, again =====
abbrev Kb : Type := Nat → Option Bl
def KpC (w : Wd) (kp : Kb) : Prop := ∃ s : Nat, s < 8 ∧ gI w 0 10 = nI s ∧ ∀ i, i < 3 → (bt (nI s) i = 0 ↔ kp i = none) ∧ ∀ b, kp i = some b → bC w (82 + 2 * i) = b
