-- ===== words of the constructors =====
theorem df_X1 : ∀ j, j < 9 → defaultValue (tyX1 j) = vp_V [.null, .int 0, .int 0, .int 0, .int 0, .int 0, .int 0, .int 0, .int 0] j := by
  intro j hj
  match j, hj with
  | 0, _ => rfl
  | 1, _ => rfl
  | 2, _ => rfl
  | 3, _ => rfl
  | 4, _ => rfl
  | 5, _ => rfl
  | 6, _ => rfl
  | 7, _ => rfl
  | 8, _ => rfl
  | n + 9, h => exact absurd h (by omega)
theorem df_X2 : ∀ j, j < 10 → defaultValue (tyX2 j) = vp_V [.null, .int 0, .null, .null, .null, .int 0, .int 0, .int 0, .int 0, .int 0] j := by
  intro j hj
  match j, hj with
  | 0, _ => rfl
  | 1, _ => rfl
  | 2, _ => rfl
  | 3, _ => rfl
  | 4, _ => rfl
  | 5, _ => rfl
  | 6, _ => rfl
  | 7, _ => rfl
  | 8, _ => rfl
  | 9, _ => rfl
  | n + 10, h => exact absurd h (by omega)
theorem df_X3 : ∀ j, j < 6 → defaultValue (tyX3 j) = vp_V [.null, .null, .null, .int 0, .null, .null] j := by
  intro j hj
  match j, hj with
  | 0, _ => rfl
  | 1, _ => rfl
  | 2, _ => rfl
  | 3, _ => rfl
  | 4, _ => rfl
  | 5, _ => rfl
  | n + 6, h => exact absurd h (by omega)
theorem df_X4 : ∀ j, j < 3 → defaultValue (tyX4 j) = vp_V [.null, .int 0, .int 0] j := by
  intro j hj
  match j, hj with
  | 0, _ => rfl
  | 1, _ => rfl
  | 2, _ => rfl
  | n + 3, h => exact absurd h (by omega)
theorem df_X5 : ∀ j, j < 3 → defaultValue (tyX5 j) = vp_V [.null, .null, .int 0] j := by
  intro j hj
  match j, hj with
  | 0, _ => rfl
  | 1, _ => rfl
  | 2, _ => rfl
  | n + 3, h => exact absurd h (by omega)
theorem df_X6 : ∀ j, j < 3 → defaultValue (tyX6 j) = vp_V [.null, .null, .null] j := by
  intro j hj
  match j, hj with
  | 0, _ => rfl
  | 1, _ => rfl
  | 2, _ => rfl
  | n + 3, h => exact absurd h (by omega)
theorem df_X7 : ∀ j, j < 2 → defaultValue (tyX7 j) = vp_V [.null, .int 0] j := by
  intro j hj
  match j, hj with
  | 0, _ => rfl
  | 1, _ => rfl
  | n + 2, h => exact absurd h (by omega)
theorem df_X8 : ∀ j, j < 2 → defaultValue (tyX8 j) = vp_V [.null, .int 0] j := by
  intro j hj
  match j, hj with
  | 0, _ => rfl
  | 1, _ => rfl
  | n + 2, h => exact absurd h (by omega)
theorem df_X9 : ∀ j, j < 6 → defaultValue (tyX9 j) = vp_V [.null, .null, .null, .int 0, .int 0, .int 0] j := by
  intro j hj
  match j, hj with
  | 0, _ => rfl
  | 1, _ => rfl
  | 2, _ => rfl
  | 3, _ => rfl
  | 4, _ => rfl
  | 5, _ => rfl
  | n + 6, h => exact absurd h (by omega)
theorem df_X10 : ∀ j, j < 13 → defaultValue (tyX10 j) = vp_V [.null, .null, .null, .null, .null, .null, .null, .null, .null, .null, .int 0, .null, .null] j := by
  intro j hj
  match j, hj with
  | 0, _ => rfl
  | 1, _ => rfl
  | 2, _ => rfl
  | 3, _ => rfl
  | 4, _ => rfl
  | 5, _ => rfl
  | 6, _ => rfl
  | 7, _ => rfl
  | 8, _ => rfl
  | 9, _ => rfl
  | 10, _ => rfl
  | 11, _ => rfl
  | 12, _ => rfl
  | n + 13, h => exact absurd h (by omega)
theorem ob_X1 : OBk RX1 3 := ⟨wl (pc1 _ (List.mem_of_getElem? (i := 195) (by decide +kernel))) rfl, wl (pc1 _ (List.mem_of_getElem? (i := 41) (by decide +kernel))) rfl, wl (pc1 _ (List.mem_of_getElem? (i := 42) (by decide +kernel))) rfl⟩
theorem ff_X1_9 : FLf RX1 9 3 0 (.array .int) := ⟨RX1, TX1, 9, tyX1, rfl, by decide, wl (pc1 _ (List.mem_of_getElem? (i := 196) (by decide +kernel))) rfl, wx_X1, tyX1_ok, nmX1, rfl, rfl, by decide +kernel⟩
theorem ob_X2 : OBk RX2 3 := ⟨wl (pc1 _ (List.mem_of_getElem? (i := 129) (by decide +kernel))) rfl, wl (pc1 _ (List.mem_of_getElem? (i := 41) (by decide +kernel))) rfl, wl (pc1 _ (List.mem_of_getElem? (i := 42) (by decide +kernel))) rfl⟩
theorem ff_X2_9 : FLf RX2 9 4 0 (.array .int) := ⟨RX2, TX2, 10, tyX2, rfl, by decide, wl (pc1 _ (List.mem_of_getElem? (i := 130) (by decide +kernel))) rfl, wx_X2, tyX2_ok, nmX2, rfl, rfl, by decide +kernel⟩
theorem ff_X2_19 : FLf RX2 19 4 2 (.array .int) := ⟨RX2, TX2, 10, tyX2, rfl, by decide, wl (pc1 _ (List.mem_of_getElem? (i := 132) (by decide +kernel))) rfl, wx_X2, tyX2_ok, nmX2, rfl, rfl, by decide +kernel⟩
theorem ff_X2_22 : FLf RX2 22 4 3 (.array .int) := ⟨RX2, TX2, 10, tyX2, rfl, by decide, wl (pc1 _ (List.mem_of_getElem? (i := 133) (by decide +kernel))) rfl, wx_X2, tyX2_ok, nmX2, rfl, rfl, by decide +kernel⟩
theorem ff_X2_25 : FLf RX2 25 4 4 (.array .int) := ⟨RX2, TX2, 10, tyX2, rfl, by decide, wl (pc1 _ (List.mem_of_getElem? (i := 134) (by decide +kernel))) rfl, wx_X2, tyX2_ok, nmX2, rfl, rfl, by decide +kernel⟩
theorem ob_X3 : OBk RX3 3 := ⟨wl (pc2 _ (List.mem_of_getElem? (i := 43) (by decide +kernel))) rfl, wl (pc1 _ (List.mem_of_getElem? (i := 41) (by decide +kernel))) rfl, wl (pc1 _ (List.mem_of_getElem? (i := 42) (by decide +kernel))) rfl⟩
theorem ff_X3_11 : FLf RX3 11 5 0 (.array .int) := ⟨RX3, TX3, 6, tyX3, rfl, by decide, wl (pc2 _ (List.mem_of_getElem? (i := 44) (by decide +kernel))) rfl, wx_X3, tyX3_ok, nmX3, rfl, rfl, by decide +kernel⟩
theorem ff_X3_15 : FLf RX3 15 5 1 (.array .int) := ⟨RX3, TX3, 6, tyX3, rfl, by decide, wl (pc2 _ (List.mem_of_getElem? (i := 45) (by decide +kernel))) rfl, wx_X3, tyX3_ok, nmX3, rfl, rfl, by decide +kernel⟩
theorem ff_X3_18 : FLf RX3 18 5 2 (.array .int) := ⟨RX3, TX3, 6, tyX3, rfl, by decide, wl (pc2 _ (List.mem_of_getElem? (i := 46) (by decide +kernel))) rfl, wx_X3, tyX3_ok, nmX3, rfl, rfl, by decide +kernel⟩
theorem ff_X3_25 : FLf RX3 25 5 4 (.array .int) := ⟨RX3, TX3, 6, tyX3, rfl, by decide, wl (pc2 _ (List.mem_of_getElem? (i := 49) (by decide +kernel))) rfl, wx_X3, tyX3_ok, nmX3, rfl, rfl, by decide +kernel⟩
theorem ff_X3_28 : FLf RX3 28 5 5 (.array .int) := ⟨RX3, TX3, 6, tyX3, rfl, by decide, wl (pc2 _ (List.mem_of_getElem? (i := 50) (by decide +kernel))) rfl, wx_X3, tyX3_ok, nmX3, rfl, rfl, by decide +kernel⟩
theorem ob_X4 : OBk RX4 3 := ⟨wl (pc2 _ (List.mem_of_getElem? (i := 5) (by decide +kernel))) rfl, wl (pc1 _ (List.mem_of_getElem? (i := 41) (by decide +kernel))) rfl, wl (pc1 _ (List.mem_of_getElem? (i := 42) (by decide +kernel))) rfl⟩
theorem nq_X4_11 : Cond.classLink RX4 11 RX1 ∈ wall := wl (pc2 _ (List.mem_of_getElem? (i := 6) (by decide +kernel))) rfl
theorem ff_X4_13 : FLf RX4 13 6 0 (.array (.object "MustNotStop$Bell")) := ⟨RX4, TX4, 3, tyX4, rfl, by decide, wl (pc2 _ (List.mem_of_getElem? (i := 9) (by decide +kernel))) rfl, wx_X4, tyX4_ok, nmX4, rfl, rfl, by decide +kernel⟩
theorem nw_X4_11 : NWk RX4 11 3 9 [.null, .int 0, .int 0, .int 0, .int 0, .int 0, .int 0, .int 0, .int 0] := ⟨RX1, TX1, tyX1, rfl, wl (pc2 _ (List.mem_of_getElem? (i := 6) (by decide +kernel))) rfl, wl (pc1 _ (List.mem_of_getElem? (i := 191) (by decide +kernel))) rfl, wl (pc1 _ (List.mem_of_getElem? (i := 8) (by decide +kernel))) rfl, wx_X1, tyX1_ok, df_X1⟩
theorem ob_X5 : OBk RX5 3 := ⟨wl (pc1 _ (List.mem_of_getElem? (i := 112) (by decide +kernel))) rfl, wl (pc1 _ (List.mem_of_getElem? (i := 41) (by decide +kernel))) rfl, wl (pc1 _ (List.mem_of_getElem? (i := 42) (by decide +kernel))) rfl⟩
theorem ff_X5_9 : FLf RX5 9 7 0 (.array .int) := ⟨RX5, TX5, 3, tyX5, rfl, by decide, wl (pc1 _ (List.mem_of_getElem? (i := 113) (by decide +kernel))) rfl, wx_X5, tyX5_ok, nmX5, rfl, rfl, by decide +kernel⟩
theorem ff_X5_15 : FLf RX5 15 7 1 (.array .int) := ⟨RX5, TX5, 3, tyX5, rfl, by decide, wl (pc1 _ (List.mem_of_getElem? (i := 114) (by decide +kernel))) rfl, wx_X5, tyX5_ok, nmX5, rfl, rfl, by decide +kernel⟩
theorem ob_X6 : OBk RX6 3 := ⟨wl (pc2 _ (List.mem_of_getElem? (i := 25) (by decide +kernel))) rfl, wl (pc1 _ (List.mem_of_getElem? (i := 41) (by decide +kernel))) rfl, wl (pc1 _ (List.mem_of_getElem? (i := 42) (by decide +kernel))) rfl⟩
theorem nq_X6_11 : Cond.classLink RX6 11 RX1 ∈ wall := wl (pc2 _ (List.mem_of_getElem? (i := 26) (by decide +kernel))) rfl
theorem ff_X6_13 : FLf RX6 13 8 0 (.array (.object "MustNotStop$Bell")) := ⟨RX6, TX6, 3, tyX6, rfl, by decide, wl (pc2 _ (List.mem_of_getElem? (i := 28) (by decide +kernel))) rfl, wx_X6, tyX6_ok, nmX6, rfl, rfl, by decide +kernel⟩
theorem ff_X6_17 : FLf RX6 17 8 1 (.array .int) := ⟨RX6, TX6, 3, tyX6, rfl, by decide, wl (pc2 _ (List.mem_of_getElem? (i := 29) (by decide +kernel))) rfl, wx_X6, tyX6_ok, nmX6, rfl, rfl, by decide +kernel⟩
theorem ff_X6_21 : FLf RX6 21 8 2 (.array .int) := ⟨RX6, TX6, 3, tyX6, rfl, by decide, wl (pc2 _ (List.mem_of_getElem? (i := 30) (by decide +kernel))) rfl, wx_X6, tyX6_ok, nmX6, rfl, rfl, by decide +kernel⟩
theorem nw_X6_11 : NWk RX6 11 3 9 [.null, .int 0, .int 0, .int 0, .int 0, .int 0, .int 0, .int 0, .int 0] := ⟨RX1, TX1, tyX1, rfl, wl (pc2 _ (List.mem_of_getElem? (i := 26) (by decide +kernel))) rfl, wl (pc1 _ (List.mem_of_getElem? (i := 191) (by decide +kernel))) rfl, wl (pc1 _ (List.mem_of_getElem? (i := 8) (by decide +kernel))) rfl, wx_X1, tyX1_ok, df_X1⟩
theorem ob_X7 : OBk RX7 1 := ⟨wl (pc1 _ (List.mem_of_getElem? (i := 95) (by decide +kernel))) rfl, wl (pc1 _ (List.mem_of_getElem? (i := 41) (by decide +kernel))) rfl, wl (pc1 _ (List.mem_of_getElem? (i := 42) (by decide +kernel))) rfl⟩
theorem ff_X7_7 : FLf RX7 7 9 0 (.array .long) := ⟨RX7, TX7, 2, tyX7, rfl, by decide, wl (pc1 _ (List.mem_of_getElem? (i := 96) (by decide +kernel))) rfl, wx_X7, tyX7_ok, nmX7, rfl, rfl, by decide +kernel⟩
theorem ob_X8 : OBk RX8 3 := ⟨wl (pc1 _ (List.mem_of_getElem? (i := 77) (by decide +kernel))) rfl, wl (pc1 _ (List.mem_of_getElem? (i := 41) (by decide +kernel))) rfl, wl (pc1 _ (List.mem_of_getElem? (i := 42) (by decide +kernel))) rfl⟩
theorem ff_X8_9 : FLf RX8 9 10 0 (.array .int) := ⟨RX8, TX8, 2, tyX8, rfl, by decide, wl (pc1 _ (List.mem_of_getElem? (i := 78) (by decide +kernel))) rfl, wx_X8, tyX8_ok, nmX8, rfl, rfl, by decide +kernel⟩
theorem ob_X9 : OBk RX9 3 := ⟨wl (pc1 _ (List.mem_of_getElem? (i := 164) (by decide +kernel))) rfl, wl (pc1 _ (List.mem_of_getElem? (i := 41) (by decide +kernel))) rfl, wl (pc1 _ (List.mem_of_getElem? (i := 42) (by decide +kernel))) rfl⟩
theorem ff_X9_21 : FLf RX9 21 11 0 (.object "MustNotStop$Roll") := ⟨RX9, TX9, 6, tyX9, rfl, by decide, wl (pc1 _ (List.mem_of_getElem? (i := 165) (by decide +kernel))) rfl, wx_X9, tyX9_ok, nmX9, rfl, rfl, by decide +kernel⟩
theorem ff_X9_25 : FLf RX9 25 11 1 (.object "MustNotStop$Roll") := ⟨RX9, TX9, 6, tyX9, rfl, by decide, wl (pc1 _ (List.mem_of_getElem? (i := 167) (by decide +kernel))) rfl, wx_X9, tyX9_ok, nmX9, rfl, rfl, by decide +kernel⟩
theorem ob_X10 : OBk RX10 1 := ⟨wl (pc1 _ (List.mem_of_getElem? (i := 71) (by decide +kernel))) rfl, wl (pc1 _ (List.mem_of_getElem? (i := 41) (by decide +kernel))) rfl, wl (pc1 _ (List.mem_of_getElem? (i := 42) (by decide +kernel))) rfl⟩
theorem nw_X10_7 : NWk RX10 7 10 2 [.null, .int 0] := ⟨RX8, TX8, tyX8, rfl, wl (pc1 _ (List.mem_of_getElem? (i := 72) (by decide +kernel))) rfl, wl (pc1 _ (List.mem_of_getElem? (i := 73) (by decide +kernel))) rfl, wl (pc1 _ (List.mem_of_getElem? (i := 3) (by decide +kernel))) rfl, wx_X8, tyX8_ok, df_X8⟩
theorem ff_X10_10 : FLf RX10 10 12 0 (.object "MustNotStop$Text") := ⟨RX10, TX10, 13, tyX10, rfl, by decide, wl (pc2 _ (List.mem_of_getElem? (i := 64) (by decide +kernel))) rfl, wx_X10, tyX10_ok, nmX10, rfl, rfl, by decide +kernel⟩
theorem nw_X10_16 : NWk RX10 16 9 2 [.null, .int 0] := ⟨RX7, TX7, tyX7, rfl, wl (pc1 _ (List.mem_of_getElem? (i := 90) (by decide +kernel))) rfl, wl (pc1 _ (List.mem_of_getElem? (i := 91) (by decide +kernel))) rfl, wl (pc1 _ (List.mem_of_getElem? (i := 4) (by decide +kernel))) rfl, wx_X7, tyX7_ok, df_X7⟩
theorem ff_X10_19 : FLf RX10 19 12 1 (.object "MustNotStop$Row") := ⟨RX10, TX10, 13, tyX10, rfl, by decide, wl (pc2 _ (List.mem_of_getElem? (i := 65) (by decide +kernel))) rfl, wx_X10, tyX10_ok, nmX10, rfl, rfl, by decide +kernel⟩
theorem nw_X10_23 : NWk RX10 23 11 6 [.null, .null, .null, .int 0, .int 0, .int 0] := ⟨RX9, TX9, tyX9, rfl, wl (pc1 _ (List.mem_of_getElem? (i := 105) (by decide +kernel))) rfl, wl (pc1 _ (List.mem_of_getElem? (i := 106) (by decide +kernel))) rfl, wl (pc1 _ (List.mem_of_getElem? (i := 5) (by decide +kernel))) rfl, wx_X9, tyX9_ok, df_X9⟩
theorem nw_X10_25 : NWk RX10 25 7 3 [.null, .null, .int 0] := ⟨RX5, TX5, tyX5, rfl, wl (pc1 _ (List.mem_of_getElem? (i := 107) (by decide +kernel))) rfl, wl (pc1 _ (List.mem_of_getElem? (i := 108) (by decide +kernel))) rfl, wl (pc1 _ (List.mem_of_getElem? (i := 6) (by decide +kernel))) rfl, wx_X5, tyX5_ok, df_X5⟩
theorem nw_X10_28 : NWk RX10 28 4 10 [.null, .int 0, .null, .null, .null, .int 0, .int 0, .int 0, .int 0, .int 0] := ⟨RX2, TX2, tyX2, rfl, wl (pc1 _ (List.mem_of_getElem? (i := 124) (by decide +kernel))) rfl, wl (pc1 _ (List.mem_of_getElem? (i := 125) (by decide +kernel))) rfl, wl (pc1 _ (List.mem_of_getElem? (i := 7) (by decide +kernel))) rfl, wx_X2, tyX2_ok, df_X2⟩
theorem ff_X10_34 : FLf RX10 34 12 2 (.object "MustNotStop$Tower") := ⟨RX10, TX10, 13, tyX10, rfl, by decide, wl (pc2 _ (List.mem_of_getElem? (i := 66) (by decide +kernel))) rfl, wx_X10, tyX10_ok, nmX10, rfl, rfl, by decide +kernel⟩
theorem ff_X10_49 : FLf RX10 49 12 3 (.object "MustNotStop$Tower") := ⟨RX10, TX10, 13, tyX10, rfl, by decide, wl (pc2 _ (List.mem_of_getElem? (i := 67) (by decide +kernel))) rfl, wx_X10, tyX10_ok, nmX10, rfl, rfl, by decide +kernel⟩
theorem nw_X10_55 : NWk RX10 55 3 9 [.null, .int 0, .int 0, .int 0, .int 0, .int 0, .int 0, .int 0, .int 0] := ⟨RX1, TX1, tyX1, rfl, wl (pc1 _ (List.mem_of_getElem? (i := 190) (by decide +kernel))) rfl, wl (pc1 _ (List.mem_of_getElem? (i := 191) (by decide +kernel))) rfl, wl (pc1 _ (List.mem_of_getElem? (i := 8) (by decide +kernel))) rfl, wx_X1, tyX1_ok, df_X1⟩
theorem ff_X10_58 : FLf RX10 58 12 5 (.object "MustNotStop$Bell") := ⟨RX10, TX10, 13, tyX10, rfl, by decide, wl (pc2 _ (List.mem_of_getElem? (i := 69) (by decide +kernel))) rfl, wx_X10, tyX10_ok, nmX10, rfl, rfl, by decide +kernel⟩
theorem ff_X10_62 : FLf RX10 62 12 6 (.object "MustNotStop$Bell") := ⟨RX10, TX10, 13, tyX10, rfl, by decide, wl (pc2 _ (List.mem_of_getElem? (i := 70) (by decide +kernel))) rfl, wx_X10, tyX10_ok, nmX10, rfl, rfl, by decide +kernel⟩
theorem ff_X10_65 : FLf RX10 65 12 7 (.object "MustNotStop$Bell") := ⟨RX10, TX10, 13, tyX10, rfl, by decide, wl (pc2 _ (List.mem_of_getElem? (i := 71) (by decide +kernel))) rfl, wx_X10, tyX10_ok, nmX10, rfl, rfl, by decide +kernel⟩
theorem nw_X10_68 : NWk RX10 68 6 3 [.null, .int 0, .int 0] := ⟨RX4, TX4, tyX4, rfl, wl (pc2 _ (List.mem_of_getElem? (i := 0) (by decide +kernel))) rfl, wl (pc2 _ (List.mem_of_getElem? (i := 1) (by decide +kernel))) rfl, wl (pc1 _ (List.mem_of_getElem? (i := 9) (by decide +kernel))) rfl, wx_X4, tyX4_ok, df_X4⟩
theorem ff_X10_71 : FLf RX10 71 12 8 (.object "MustNotStop$Past") := ⟨RX10, TX10, 13, tyX10, rfl, by decide, wl (pc2 _ (List.mem_of_getElem? (i := 72) (by decide +kernel))) rfl, wx_X10, tyX10_ok, nmX10, rfl, rfl, by decide +kernel⟩
theorem nq_X10_55 : Cond.classLink RX10 55 RX1 ∈ wall := wl (pc1 _ (List.mem_of_getElem? (i := 190) (by decide +kernel))) rfl
theorem ff_X10_75 : FLf RX10 75 12 9 (.array (.object "MustNotStop$Bell")) := ⟨RX10, TX10, 13, tyX10, rfl, by decide, wl (pc2 _ (List.mem_of_getElem? (i := 73) (by decide +kernel))) rfl, wx_X10, tyX10_ok, nmX10, rfl, rfl, by decide +kernel⟩
theorem nw_X10_83 : NWk RX10 83 8 3 [.null, .null, .null] := ⟨RX6, TX6, tyX6, rfl, wl (pc2 _ (List.mem_of_getElem? (i := 20) (by decide +kernel))) rfl, wl (pc2 _ (List.mem_of_getElem? (i := 21) (by decide +kernel))) rfl, wl (pc1 _ (List.mem_of_getElem? (i := 10) (by decide +kernel))) rfl, wx_X6, tyX6_ok, df_X6⟩
theorem ff_X10_86 : FLf RX10 86 12 11 (.object "MustNotStop$Rotas") := ⟨RX10, TX10, 13, tyX10, rfl, by decide, wl (pc2 _ (List.mem_of_getElem? (i := 75) (by decide +kernel))) rfl, wx_X10, tyX10_ok, nmX10, rfl, rfl, by decide +kernel⟩
theorem nw_X10_90 : NWk RX10 90 5 6 [.null, .null, .null, .int 0, .null, .null] := ⟨RX3, TX3, tyX3, rfl, wl (pc2 _ (List.mem_of_getElem? (i := 38) (by decide +kernel))) rfl, wl (pc2 _ (List.mem_of_getElem? (i := 39) (by decide +kernel))) rfl, wl (pc1 _ (List.mem_of_getElem? (i := 11) (by decide +kernel))) rfl, wx_X3, tyX3_ok, df_X3⟩
theorem ff_X10_93 : FLf RX10 93 12 12 (.object "MustNotStop$Night") := ⟨RX10, TX10, 13, tyX10, rfl, by decide, wl (pc2 _ (List.mem_of_getElem? (i := 76) (by decide +kernel))) rfl, wx_X10, tyX10_ok, nmX10, rfl, rfl, by decide +kernel⟩
theorem ni_X8 : Cond.instanceMethod yX8_init ∈ wall ∧ Cond.initialized yX8_init.cls ∈ wall ∧ Cond.code yX8_init cX8_init 1 none ∈ wall := ⟨wl (pc1 _ (List.mem_of_getElem? (i := 75) (by decide +kernel))) rfl, wl (pc1 _ (List.mem_of_getElem? (i := 3) (by decide +kernel))) rfl, wl (pc1 _ (List.mem_of_getElem? (i := 76) (by decide +kernel))) rfl⟩
theorem ni_X7 : Cond.instanceMethod yX7_init ∈ wall ∧ Cond.initialized yX7_init.cls ∈ wall ∧ Cond.code yX7_init cX7_init 1 none ∈ wall := ⟨wl (pc1 _ (List.mem_of_getElem? (i := 93) (by decide +kernel))) rfl, wl (pc1 _ (List.mem_of_getElem? (i := 4) (by decide +kernel))) rfl, wl (pc1 _ (List.mem_of_getElem? (i := 94) (by decide +kernel))) rfl⟩
theorem ni_X5 : Cond.instanceMethod yX5_init ∈ wall ∧ Cond.initialized yX5_init.cls ∈ wall ∧ Cond.code yX5_init cX5_init 1 none ∈ wall := ⟨wl (pc1 _ (List.mem_of_getElem? (i := 110) (by decide +kernel))) rfl, wl (pc1 _ (List.mem_of_getElem? (i := 6) (by decide +kernel))) rfl, wl (pc1 _ (List.mem_of_getElem? (i := 111) (by decide +kernel))) rfl⟩
theorem ni_X2 : Cond.instanceMethod yX2_init ∈ wall ∧ Cond.initialized yX2_init.cls ∈ wall ∧ Cond.code yX2_init cX2_init 1 none ∈ wall := ⟨wl (pc1 _ (List.mem_of_getElem? (i := 127) (by decide +kernel))) rfl, wl (pc1 _ (List.mem_of_getElem? (i := 7) (by decide +kernel))) rfl, wl (pc1 _ (List.mem_of_getElem? (i := 128) (by decide +kernel))) rfl⟩
theorem ni_X1 : Cond.instanceMethod yX1_init ∈ wall ∧ Cond.initialized yX1_init.cls ∈ wall ∧ Cond.code yX1_init cX1_init 1 none ∈ wall := ⟨wl (pc1 _ (List.mem_of_getElem? (i := 193) (by decide +kernel))) rfl, wl (pc1 _ (List.mem_of_getElem? (i := 8) (by decide +kernel))) rfl, wl (pc1 _ (List.mem_of_getElem? (i := 194) (by decide +kernel))) rfl⟩
theorem ni_X3 : Cond.instanceMethod yX3_init ∈ wall ∧ Cond.initialized yX3_init.cls ∈ wall ∧ Cond.code yX3_init cX3_init 1 none ∈ wall := ⟨wl (pc2 _ (List.mem_of_getElem? (i := 41) (by decide +kernel))) rfl, wl (pc1 _ (List.mem_of_getElem? (i := 11) (by decide +kernel))) rfl, wl (pc2 _ (List.mem_of_getElem? (i := 42) (by decide +kernel))) rfl⟩
/-- they stand in the tables -/
theorem nz_tab : ∀ q, q ∈ nzl → Cond.methodLinkNest q.1 q.2.1 q.2.2 "MustNotStop" ∈ lw_tbl := by
  intro q hq
  simp only [nzl, List.mem_cons, List.not_mem_nil, or_false] at hq
  rcases hq with rfl | rfl | rfl | rfl | rfl | rfl | rfl | rfl
  · exact pc1 _ (List.mem_of_getElem? (i := 74) (by decide +kernel))
  · exact pc1 _ (List.mem_of_getElem? (i := 92) (by decide +kernel))
  · exact pc1 _ (List.mem_of_getElem? (i := 109) (by decide +kernel))
  · exact pc1 _ (List.mem_of_getElem? (i := 126) (by decide +kernel))
  · exact pc1 _ (List.mem_of_getElem? (i := 192) (by decide +kernel))
  · exact pc2 _ (List.mem_of_getElem? (i := 8) (by decide +kernel))
  · exact pc2 _ (List.mem_of_getElem? (i := 27) (by decide +kernel))
  · exact pc2 _ (List.mem_of_getElem? (i := 40) (by decide +kernel))
theorem ao_tab : Cond.arrayOver (.object RX1) ∈ lw_tbl := pc2 _ (List.mem_of_getElem? (i := 7) (by decide +kernel))
theorem ac_int : Cond.arrayClass .int ∈ wall := wl (pc1 _ (List.mem_of_getElem? (i := 89) (by decide +kernel))) rfl
theorem ac_long : Cond.arrayClass .long ∈ wall := wl (pc1 _ (List.mem_of_getElem? (i := 104) (by decide +kernel))) rfl
theorem ac_boolean : Cond.arrayClass .boolean ∈ wall := wl (pc3 _ (List.mem_of_getElem? (i := 131) (by decide +kernel))) rfl
