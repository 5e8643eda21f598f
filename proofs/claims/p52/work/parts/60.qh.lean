def setT (T : Tw) (k : Nat) (v : Int32) : Tw := fun c j => if c = 4 ∧ j = k then v else T c j
theorem setR_same (b : Bl) : setR b (b 8) = b := by
  funext k
  show (if k = 8 then b 8 else b k) = b k
  split
  · rename_i h; rw [h]
  · rfl
