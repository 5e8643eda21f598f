-- ===== minutes thought of, on the model's side =====
theorem bt_test : ∀ s : Nat, s < 256 → ∀ k : Nat, k < 8 → bt (nI s) k = if s.testBit k then 1 else 0 := by decide +kernel
theorem bt_hi {s r k : Nat} (hs : s < 2 ^ r) (hr : r ≤ 8) (h1 : r ≤ k) (h2 : k < 8) : bt (nI s) k = 0 := by
  have := pow8 hr
  rw [bt_test s (by omega) k h2, Nat.testBit_lt_two_pow (Nat.lt_of_lt_of_le hs (Nat.pow_le_pow_right (by decide) h1))]
  rfl
theorem zB_mi0 {T : Tw} {b : Bl} {r : Nat} (h : zB b r) : zB (mi0 T b) r := by
  obtain ⟨h1, h2⟩ := h
  refine ⟨fun k hk h8 => ⟨?_, ?_⟩, ?_⟩
  · show (if k < 8 then (if bt (b 8) k = 0 then maxI 0 (b k - 1) else minI 99 (b k + 2)) else _) = 0
    rw [if_pos h8, (h1 k hk h8).2, if_pos rfl, (h1 k hk h8).1]
    rfl
  · exact (h1 k hk h8).2
  · rw [mi0_9]
    split
    · exact h2
    · split
      · unfold maxI
        split
        · rename_i q; intro q2; exact absurd (Int32.lt_trans q q2) (by decide)
        · decide
      · exact h2
theorem mi_e {T : Tw} {b : Bl} {k : Nat} (h : ¬ k = 15) : mi T b k = mi0 T b k := if_neg h
theorem zB_ext {b b2 : Bl} {r : Nat} (h : ∀ k, k < 10 → b2 k = b k) (z : zB b r) : zB b2 r := ⟨fun k h1 h2 => by rw [h k (by omega), h 8 (by decide)]; exact z.1 k h1 h2, by rw [h 9 (by decide)]; exact z.2⟩
theorem zB_mi {T : Tw} {b : Bl} {r : Nat} (h : zB b r) : zB (mi T b) r := zB_ext (fun k hk => mi_e (by omega)) (zB_mi0 h)
theorem zB_set {b : Bl} {r s : Nat} (hr : r ≤ 8) (h : zB b r) (hs : s < 2 ^ r) : zB (setR b (nI s)) r := ⟨fun k h1 h2 => ⟨by show (if k = 8 then _ else b k) = 0; rw [if_neg (by omega)]; exact (h.1 k h1 h2).1, bt_hi hs hr h1 h2⟩, h.2⟩
/-- so many minutes -/
def itM (T : Tw) : Nat → Bl → Bl
  | 0, b => b
  | n + 1, b => itM T n (mi T b)
theorem mi_11 (T : Tw) (b : Bl) : mi T b 11 = b 11 + (if loudT T b (b 8) ≤ 0 then 0 else 1) := by
  rw [mi_e (by decide), mi0_11]
  split
  · exact (add0 _).symm
  · rfl
