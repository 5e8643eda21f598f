theorem rng {x a b : Int32} {A B : Nat} (h1 : ¬ x < a) (h2 : x ≤ b) (ea : a = nI A := by rfl) (eb : b = nI B := by rfl) (hA : A < 2 ^ 31 := by decide) (hB : B < 2 ^ 31 := by decide) : ∃ n, A ≤ n ∧ n ≤ B ∧ x = nI n := by
  subst ea
  subst eb
  obtain ⟨n, hn, rfl⟩ := nI_of2 (M := nI B) (n := B) (nI_toInt hB) (x := x) (by
    intro q
    apply h1
    rw [Int32.lt_iff_toInt_lt] at q ⊢
    rw [nI_toInt hA]
    have e2 : (0 : Int32).toInt = 0 := by decide
    omega) h2
  refine ⟨n, ?_, hn, rfl⟩
  by_cases hx : A ≤ n
  · exact hx
  · exact absurd (nI_lt (a := n) (b := A) (by omega) hA) h1
-- ===== strongest =====
abbrev Ot : Type := Option (Nat × Nat)
/-- the better of what is held and a new one -/
def btr (o : Ot) (l s : Nat) : Ot := match o with
  | none => some (l, s)
  | some q => if q.1 < l then some (l, s) else some q
def stp (T : Tw) (b : Bl) (many : Int32) (j : Nat) (o : Ot) : Ot := if bc (nI j) = many then btr o (alone T b (nI j) 999) j else o
