def setT (T : Tw) (k : Nat) (v : Int32) : Tw := fun c j => if c = 4 ∧ j = k then v else T c j
theorem okTw_set {T : Tw} {r p N : Nat} (ok : okTw T r p N) (k : Nat) (v : Int32) (hk : k = 2 ∨ k = 3) : okTw (setT T k v) r p N := by
  obtain ⟨o1, o2, o3, o4, o5, o6, o7, o8, o9, o10, o11⟩ := ok
  have e : ∀ c j, ¬ (c = 4 ∧ j = k) → setT T k v c j = T c j := fun c j h => if_neg h
  refine ⟨o1, o2, by rw [e _ _ (by omega)]; exact o3, by rw [e _ _ (by omega)]; exact o4, by rw [e _ _ (by omega)]; exact o5, ?_, fun j hj => ?_, fun j hj => ?_, fun j => ?_, fun j => ?_, ?_⟩
  · have : setT T k v 5 = T 5 := funext (fun j => e 5 j (by omega))
    rw [this]; exact o6
  · rw [e _ _ (by omega), e _ _ (by omega)]; exact o7 j hj
  · rw [e _ _ (by omega), e _ _ (by omega)]; exact o8 j hj
  · rw [e _ _ (by omega)]; exact o9 j
  · rw [e _ _ (by omega)]; exact o10 j
  · rw [e _ _ (by omega)]; exact o11
theorem setR_same (b : Bl) : setR b (b 8) = b := by
  funext k
  show (if k = 8 then b 8 else b k) = b k
  split
  · rename_i h; rw [h]
  · rfl
