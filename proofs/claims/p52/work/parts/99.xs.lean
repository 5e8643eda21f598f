section NU
variable {F : Nat} {a : Nat} {t : Nat → Int32} {n e : Nat} {W : List Int32} {d : Nat} {mm : Int32}
theorem add_dig (y : Int32) {c : Nat} (h : 48 ≤ c) : y * 10 + nI (c - 48) = y * 10 + nI c - 48 := by
  rw [← pk_sub h, Int32.sub_eq_add_neg, Int32.sub_eq_add_neg, Int32.add_assoc]; rfl
theorem LawF_x {w w2 : Wd} (hx : TxC w t n) (ha : a = 12 ∨ a = 18) (f : Fr (LawF a) w w2) : TxC w2 t n := TxC_fr hx f (by unfold LawF; omega) (by unfold LawF; omega)
end NU
