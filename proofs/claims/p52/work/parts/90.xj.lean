theorem okTw_addR {T : Tw} {r p N : Nat} (ok : okTw T r p N) {ls : Nat} (h8 : r + ls ≤ 8) {f g : Nat → Int32} (hg : ∀ i, ∃ y : Nat, y ≤ 9 ∧ g i = nI y) : okTw (addT T 0 r ls f g) (r + ls) p N := by
  obtain ⟨o1, o2, o3, o4, o5, o6, o7, o8, o9, o10, o11⟩ := ok
  have a0 : ∀ k, addT T 0 r ls f g 0 k = if r ≤ k ∧ k < r + ls then f (k - r) else T 0 k := fun k => by unfold addT; rw [if_pos rfl]
  have a1 : ∀ k, addT T 0 r ls f g 1 k = if r ≤ k ∧ k < r + ls then g (k - r) else T 1 k := fun k => by unfold addT; rw [if_neg (by omega), if_pos rfl]
  have a2 : ∀ x k, 2 ≤ x → ¬ (x = 4 ∧ k = 0) → addT T 0 r ls f g x k = T x k := fun x k h1 h2 => by unfold addT; rw [if_neg (by omega), if_neg (by omega), if_neg (by omega)]
  have a3 : addT T 0 r ls f g 4 0 = nI (r + ls) := by unfold addT; rw [if_neg (by omega), if_neg (by omega), if_pos (by omega)]
  refine ⟨h8, o2, a3, by rw [a2 _ _ (by omega) (by omega)]; exact o4, by rw [a2 _ _ (by omega) (by omega)]; exact o5, ?_, fun k hk => ?_, fun k hk => ?_, fun k => ?_, fun k => ?_, ?_⟩
  · have : addT T 0 r ls f g 5 = T 5 := funext (fun k => a2 5 k (by omega) (by omega))
    rw [this]; exact o6
  · rw [a0, a1, if_neg (by omega), if_neg (by omega)]; exact o7 k (by omega)
  · rw [a2 _ _ (by omega) (by omega), a2 _ _ (by omega) (by omega)]; exact o8 k hk
  · rw [a1]
    by_cases c : r ≤ k ∧ k < r + ls
    · rw [if_pos c]; exact hg _
    · rw [if_neg c]; exact o9 k
  · rw [a2 _ _ (by omega) (by omega)]; exact o10 k
  · rw [a2 _ _ (by omega) (by omega)]; exact o11
theorem okTw_addP {T : Tw} {r p N : Nat} (ok : okTw T r p N) {ls : Nat} (h8 : p + ls ≤ 8) {f g : Nat → Int32} (hg : ∀ i, ∃ y : Nat, y ≤ 9 ∧ g i = nI y) : okTw (addT T 2 p ls f g) r (p + ls) N := by
  obtain ⟨o1, o2, o3, o4, o5, o6, o7, o8, o9, o10, o11⟩ := ok
  have a0 : ∀ k, addT T 2 p ls f g 2 k = if p ≤ k ∧ k < p + ls then f (k - p) else T 2 k := fun k => by unfold addT; rw [if_pos rfl]
  have a1 : ∀ k, addT T 2 p ls f g 3 k = if p ≤ k ∧ k < p + ls then g (k - p) else T 3 k := fun k => by unfold addT; rw [if_neg (by omega), if_pos rfl]
  have a2 : ∀ x k, ¬ (x = 2 ∨ x = 3) → ¬ (x = 4 ∧ k = 1) → addT T 2 p ls f g x k = T x k := fun x k h1 h2 => by unfold addT; rw [if_neg (by omega), if_neg (by omega), if_neg (by omega)]
  have a3 : addT T 2 p ls f g 4 1 = nI (p + ls) := by unfold addT; rw [if_neg (by omega), if_neg (by omega), if_pos (by omega)]
  refine ⟨o1, h8, by rw [a2 _ _ (by omega) (by omega)]; exact o3, a3, by rw [a2 _ _ (by omega) (by omega)]; exact o5, ?_, fun k hk => ?_, fun k hk => ?_, fun k => ?_, fun k => ?_, ?_⟩
  · have : addT T 2 p ls f g 5 = T 5 := funext (fun k => a2 5 k (by omega) (by omega))
    rw [this]; exact o6
  · rw [a2 _ _ (by omega) (by omega), a2 _ _ (by omega) (by omega)]; exact o7 k hk
  · rw [a0, a1, if_neg (by omega), if_neg (by omega)]; exact o8 k (by omega)
  · rw [a2 _ _ (by omega) (by omega)]; exact o9 k
  · rw [a1]
    by_cases c : p ≤ k ∧ k < p + ls
    · rw [if_pos c]; exact hg _
    · rw [if_neg c]; exact o10 k
  · rw [a2 _ _ (by omega) (by omega)]; exact o11
