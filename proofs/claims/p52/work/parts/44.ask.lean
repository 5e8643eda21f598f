-- ===== questions to the class: an answer, and what is told =====
def QP (b : Nat) : Prop := b = 3 ∨ b = 4 ∨ b = 17 ∨ Scr b ∨ (25 ≤ b ∧ b ≤ 28) ∨ (63 ≤ b ∧ b ≤ 75) ∨ b = 80 ∨ b = 81
def tqC (q : Option (List Int64)) (w w2 : Wd) : Prop := match q with
  | none => (∀ k, gI w2 3 k = gI w 3 k) ∧ (∀ k, gJ w2 4 k = gJ w 4 k)
  | some L => Tl w2 L
abbrev Ans : Type := Int32 × Option (List Int64)
/-- asked in w, it answers so, tells so, and changes nothing of account -/
def AskC (o : Option (Int32 × Wd)) (q : Ans) (w : Wd) : Prop := ∃ w2, o = some (q.1, w2) ∧ Fr QP w w2 ∧ tqC q.2 w w2
theorem SP_QP {b : Nat} (h : SP b) : QP b := by
  unfold SP at h
  unfold QP
  rcases h with h | h
  · exact .inr (.inr (.inr (.inl h)))
  · exact .inr (.inr (.inr (.inr (.inl h))))
theorem ask_n {w w1 : Wd} {v : Int32} {p : Nat → Prop} (h : Fr p w w1) (hp : ∀ b, p b → QP b ∧ b ≠ 3 ∧ b ≠ 4) : AskC (some (v, w1)) (v, none) w := ⟨w1, rfl, h.imp (fun b hb => (hp b hb).1), (h 3 (fun hb => (hp 3 hb).2.1 rfl)).1, (h 4 (fun hb => (hp 4 hb).2.2 rfl)).2.1⟩
theorem SP_n {b : Nat} (h : SP b) : QP b ∧ b ≠ 3 ∧ b ≠ 4 := ⟨SP_QP h, by unfold SP Scr at h; omega, by unfold SP Scr at h; omega⟩
def i64 (x : Int32) : Int64 := Int32.toInt64 x
/-- how many ringers, townspeople there are, is at most eight -/
def okN (w : Wd) : Prop := (∃ r, r ≤ 8 ∧ gI w 6 2 = nI r) ∧ ∃ p, p ≤ 8 ∧ gI w 9 2 = nI p
theorem pow8 {r : Nat} (h : r ≤ 8) : 1 ≤ 2 ^ r ∧ 2 ^ r ≤ 256 := ⟨Nat.one_le_two_pow, Nat.le_trans (Nat.pow_le_pow_right (by decide) h) (by decide)⟩
/-- standing ground of a question -/
def St (w : Wd) : Prop := okT w 5 ∧ okN w
theorem v_X10_loud {F : Nat} (hF : 2000 ≤ F) {w : Wd} (s : St w) : AskC (P_X10_loud F w) (loudT (tC w 5) (bC w 23) (bC w 23 8), none) w := by
  obtain ⟨w2, e1, e2⟩ := v_X9_volume (F := F) (by omega) w 5 23 s.1 (gI w 23 1)
  unfold P_X10_loud
  rw [bnd_r e1]
  exact ask_n e2 (fun b hb => SP_n (.inl hb))
/-- for how many of so many minutes these ring alone -/
def alone (T : Tw) (b : Bl) (s : Int32) (n : Nat) : Nat := (rgo T n (setR b s)).1
