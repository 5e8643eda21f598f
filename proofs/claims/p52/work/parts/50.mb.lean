-- ===== the model: frames by place and slot, its tower and its rows of a minute =====
def Fm (p : Nat → Nat → Prop) (w w2 : Wd) : Prop := ∀ a k, ¬ p a k → gI w2 a k = gI w a k ∧ gJ w2 a k = gJ w a k ∧ gR w2 a k = gR w a k
theorem Fm.rfl' {p : Nat → Nat → Prop} {w : Wd} : Fm p w w := fun _ _ _ => ⟨rfl, rfl, rfl⟩
theorem Fm.tr {p : Nat → Nat → Prop} {w w1 w2 : Wd} (h1 : Fm p w w1) (h2 : Fm p w1 w2) : Fm p w w2 := fun a k h => ⟨(h2 a k h).1.trans (h1 a k h).1, (h2 a k h).2.1.trans (h1 a k h).2.1, (h2 a k h).2.2.trans (h1 a k h).2.2⟩
theorem Fm.imp {p q : Nat → Nat → Prop} {w w1 : Wd} (h1 : Fm p w w1) (hp : ∀ a k, p a k → q a k) : Fm q w w1 := fun a k ha => h1 a k (fun h => ha (hp a k h))
theorem gIs {w : Wd} {a k : Nat} {v : Int32} : gI (sI w a k v) a k = v := by rw [gI_sI, if_pos rfl, if_pos rfl]
theorem gIk {w : Wd} {a k j : Nat} {v : Int32} (h : j ≠ k) : gI (sI w a k v) a j = gI w a j := by rw [gI_sI, if_pos rfl, if_neg h]
theorem gIa {w : Wd} {a k b j : Nat} {v : Int32} (h : b ≠ a) : gI (sI w a k v) b j = gI w b j := by rw [gI_sI, if_neg h]
/-- a tower that can be asked: so many ringers, townspeople, words of the rule -/
def okTw (T : Tw) (r p N : Nat) : Prop := r ≤ 8 ∧ p ≤ 8 ∧ T 4 0 = nI r ∧ T 4 1 = nI p ∧ T 6 0 = nI N ∧ okR (T 5) N ∧ (∀ k, r ≤ k → T 0 k = 0 ∧ T 1 k = 0) ∧ (∀ k, p ≤ k → T 2 k = 0 ∧ T 3 k = 0) ∧ (∀ k, ∃ f, f ≤ 9 ∧ T 1 k = nI f) ∧ (∀ k, ∃ f, f ≤ 9 ∧ T 3 k = nI f) ∧ ∃ m, m ≤ 9 ∧ T 4 4 = nI m
/-- those that are not there are not tired, nor at the rope; the rope has no fewer strands than none -/
def zB (b : Bl) (r : Nat) : Prop := (∀ k, r ≤ k → k < 8 → b k = 0 ∧ bt (b 8) k = 0) ∧ ¬ b 9 < 0
