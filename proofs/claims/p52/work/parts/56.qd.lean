-- ===== swap, ready =====
theorem v_X1_holdsx (F : Nat) (w : Wd) (a i : Nat) (hi : i < 8) : P_X1_holds F w a (nI i) = some (bt (gI w a 1) i, w) := by
  unfold P_X1_holds
  rw [if_neg (nI_pos (lt31 (by omega))), if_neg (n8gt hi)]
  show lt (if bt (gI w a 1) i = 0 then (0 : Int32) else 1) _ = _
  rcases bt01 (gI w a 1) i with h | h <;> rw [h] <;> rfl
theorem bit1_N : ∀ i : Nat, i < 8 → bit1 i = nI (2 ^ i) := by decide +kernel
