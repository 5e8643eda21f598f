-- ===== words of the law's methods =====
theorem df_X11 : ∀ j, j < 9 → defaultValue (tyX11 j) = vp_V [.null, .null, .int 0, .int 0, .int 0, .int 0, .int 0, .int 0, .null] j := by
  intro j hj
  match j, hj with
  | 0, _ => rfl
  | 1, _ => rfl
  | 2, _ => rfl
  | 3, _ => rfl
  | 4, _ => rfl
  | 5, _ => rfl
  | 6, _ => rfl
  | 7, _ => rfl
  | 8, _ => rfl
  | n + 9, h => exact absurd h (by omega)
theorem df_X12 : ∀ j, j < 6 → defaultValue (tyX12 j) = vp_V [.null, .null, .int 0, .int 0, .int 0, .int 0] j := by
  intro j hj
  match j, hj with
  | 0, _ => rfl
  | 1, _ => rfl
  | 2, _ => rfl
  | 3, _ => rfl
  | 4, _ => rfl
  | 5, _ => rfl
  | n + 6, h => exact absurd h (by omega)
theorem df_J4 : ∀ j, j < 4 → defaultValue (tyJ4 j) = vp_V [.null, .int 0, .int 0, .int 0] j := by
  intro j hj
  match j, hj with
  | 0, _ => rfl
  | 1, _ => rfl
  | 2, _ => rfl
  | 3, _ => rfl
  | n + 4, h => exact absurd h (by omega)
theorem df_Jx4a65c : ∀ j, j < 3 → defaultValue (tyJx4a65c j) = vp_V [.int 0, .null, .int 0] j := by
  intro j hj
  match j, hj with
  | 0, _ => rfl
  | 1, _ => rfl
  | 2, _ => rfl
  | n + 3, h => exact absurd h (by omega)
theorem df_J0 : ∀ j, j < 4 → defaultValue (tyJ0 j) = vp_V [.null, .int 0, .int 0, .int 0] j := by
  intro j hj
  match j, hj with
  | 0, _ => rfl
  | 1, _ => rfl
  | 2, _ => rfl
  | 3, _ => rfl
  | n + 4, h => exact absurd h (by omega)
theorem ob_X11_1 : OBk RX11 1 := ⟨wl (pc3 _ (List.mem_of_getElem? (i := 62) (by decide +kernel))) rfl, wl (pc1 _ (List.mem_of_getElem? (i := 41) (by decide +kernel))) rfl, wl (pc1 _ (List.mem_of_getElem? (i := 42) (by decide +kernel))) rfl⟩
theorem nw_X11_8 : NWk RX11 8 13 9 [.null, .null, .int 0, .int 0, .int 0, .int 0, .int 0, .int 0, .null] := ⟨RX11, TX11, tyX11, rfl, wl (pc5 _ (List.mem_of_getElem? (i := 142) (by decide +kernel))) rfl, wl (pc3 _ (List.mem_of_getElem? (i := 58) (by decide +kernel))) rfl, wl (pc1 _ (List.mem_of_getElem? (i := 18) (by decide +kernel))) rfl, wx_X11, tyX11_ok, df_X11⟩
theorem ck_X11_18 : CLk RX11 18 "[I" := ⟨wl (pc5 _ (List.mem_of_getElem? (i := 144) (by decide +kernel))) rfl, wl (pc5 _ (List.mem_of_getElem? (i := 145) (by decide +kernel))) rfl, wl (pc3 _ (List.mem_of_getElem? (i := 166) (by decide +kernel))) rfl, wl (pc3 _ (List.mem_of_getElem? (i := 167) (by decide +kernel))) rfl, wl (pc5 _ (List.mem_of_getElem? (i := 146) (by decide +kernel))) rfl, by decide⟩
theorem cl_X11_19 : Cond.classLink RX11 19 "[I" ∈ wall := wl (pc5 _ (List.mem_of_getElem? (i := 148) (by decide +kernel))) rfl
theorem ck_X11_27 : CLk RX11 27 "[Z" := ⟨wl (pc5 _ (List.mem_of_getElem? (i := 149) (by decide +kernel))) rfl, wl (pc5 _ (List.mem_of_getElem? (i := 25) (by decide +kernel))) rfl, wl (pc3 _ (List.mem_of_getElem? (i := 166) (by decide +kernel))) rfl, wl (pc3 _ (List.mem_of_getElem? (i := 167) (by decide +kernel))) rfl, wl (pc5 _ (List.mem_of_getElem? (i := 26) (by decide +kernel))) rfl, by decide⟩
theorem cl_X11_28 : Cond.classLink RX11 28 "[Z" ∈ wall := wl (pc5 _ (List.mem_of_getElem? (i := 150) (by decide +kernel))) rfl
theorem ob_X12_1 : OBk RX12 1 := ⟨wl (pc1 _ (List.mem_of_getElem? (i := 40) (by decide +kernel))) rfl, wl (pc1 _ (List.mem_of_getElem? (i := 41) (by decide +kernel))) rfl, wl (pc1 _ (List.mem_of_getElem? (i := 42) (by decide +kernel))) rfl⟩
theorem ck_X12_119 : CLk RX12 119 "[Z" := ⟨wl (pc5 _ (List.mem_of_getElem? (i := 24) (by decide +kernel))) rfl, wl (pc5 _ (List.mem_of_getElem? (i := 25) (by decide +kernel))) rfl, wl (pc3 _ (List.mem_of_getElem? (i := 166) (by decide +kernel))) rfl, wl (pc3 _ (List.mem_of_getElem? (i := 167) (by decide +kernel))) rfl, wl (pc5 _ (List.mem_of_getElem? (i := 26) (by decide +kernel))) rfl, by decide⟩
theorem cl_X12_120 : Cond.classLink RX12 120 "[Z" ∈ wall := wl (pc5 _ (List.mem_of_getElem? (i := 28) (by decide +kernel))) rfl
theorem cl_X12_156 : Cond.classLink RX12 156 (FieldType.array .int).toString ∈ wall := wl (pc3 _ (List.mem_of_getElem? (i := 55) (by decide +kernel))) rfl
theorem nw_X12_56 : NWk RX12 56 13 9 [.null, .null, .int 0, .int 0, .int 0, .int 0, .int 0, .int 0, .null] := ⟨RX11, TX11, tyX11, rfl, wl (pc3 _ (List.mem_of_getElem? (i := 57) (by decide +kernel))) rfl, wl (pc3 _ (List.mem_of_getElem? (i := 58) (by decide +kernel))) rfl, wl (pc1 _ (List.mem_of_getElem? (i := 18) (by decide +kernel))) rfl, wx_X11, tyX11_ok, df_X11⟩
theorem nw_X12_158 : NWk RX12 158 1 4 [.null, .int 0, .int 0, .int 0] := ⟨RJ4, TJ4, tyJ4, rfl, wl (pc3 _ (List.mem_of_getElem? (i := 101) (by decide +kernel))) rfl, wl (pc3 _ (List.mem_of_getElem? (i := 102) (by decide +kernel))) rfl, wl (pc1 _ (List.mem_of_getElem? (i := 20) (by decide +kernel))) rfl, wx_J4, tyJ4_ok, df_J4⟩
theorem nw_X12_8 : NWk RX12 8 12 13 [.null, .null, .null, .null, .null, .null, .null, .null, .null, .null, .int 0, .null, .null] := ⟨RX10, TX10, tyX10, rfl, wl (pc1 _ (List.mem_of_getElem? (i := 66) (by decide +kernel))) rfl, wl (pc1 _ (List.mem_of_getElem? (i := 67) (by decide +kernel))) rfl, wl (pc1 _ (List.mem_of_getElem? (i := 2) (by decide +kernel))) rfl, wx_X10, tyX10_ok, df_X10⟩
theorem nw_X12_221 : NWk RX12 221 2 3 [.int 0, .null, .int 0] := ⟨RJx4a65c, TJx4a65c, tyJx4a65c, rfl, wl (pc5 _ (List.mem_of_getElem? (i := 162) (by decide +kernel))) rfl, wl (pc5 _ (List.mem_of_getElem? (i := 163) (by decide +kernel))) rfl, wl (pc1 _ (List.mem_of_getElem? (i := 32) (by decide +kernel))) rfl, wx_Jx4a65c, tyJx4a65c_ok, df_Jx4a65c⟩
theorem cl_X12_56 : Cond.classLink RX12 56 "MustNotStopLaw$Bench$State" ∈ wall := wl (pc3 _ (List.mem_of_getElem? (i := 57) (by decide +kernel))) rfl
theorem ob_J5_3 : OBk RJ5 3 := ⟨wl (pc3 _ (List.mem_of_getElem? (i := 109) (by decide +kernel))) rfl, wl (pc1 _ (List.mem_of_getElem? (i := 41) (by decide +kernel))) rfl, wl (pc1 _ (List.mem_of_getElem? (i := 42) (by decide +kernel))) rfl⟩
theorem ob_J0_1 : OBk RJ0 1 := ⟨wl (pc4 _ (List.mem_of_getElem? (i := 18) (by decide +kernel))) rfl, wl (pc1 _ (List.mem_of_getElem? (i := 41) (by decide +kernel))) rfl, wl (pc1 _ (List.mem_of_getElem? (i := 42) (by decide +kernel))) rfl⟩
theorem ff_J0_15 : FLf RJ0 15 0 1 (.byte) := ⟨RJ0, TJ0, 4, tyJ0, rfl, by decide, wl (pc4 _ (List.mem_of_getElem? (i := 53) (by decide +kernel))) rfl, wx_J0, tyJ0_ok, nmJ0, rfl, rfl, by decide +kernel⟩
theorem ff_J0_9 : FLf RJ0 9 0 0 (.array .byte) := ⟨RJ0, TJ0, 4, tyJ0, rfl, by decide, wl (pc4 _ (List.mem_of_getElem? (i := 52) (by decide +kernel))) rfl, wx_J0, tyJ0_ok, nmJ0, rfl, rfl, by decide +kernel⟩
theorem nw_J4_18 : NWk RJ4 18 0 4 [.null, .int 0, .int 0, .int 0] := ⟨RJ0, TJ0, tyJ0, rfl, wl (pc4 _ (List.mem_of_getElem? (i := 10) (by decide +kernel))) rfl, wl (pc4 _ (List.mem_of_getElem? (i := 11) (by decide +kernel))) rfl, wl (pc1 _ (List.mem_of_getElem? (i := 13) (by decide +kernel))) rfl, wx_J0, tyJ0_ok, df_J0⟩
theorem ob_Jxa1e45_1 : OBk RJxa1e45 1 := ⟨wl (pc5 _ (List.mem_of_getElem? (i := 173) (by decide +kernel))) rfl, wl (pc1 _ (List.mem_of_getElem? (i := 41) (by decide +kernel))) rfl, wl (pc1 _ (List.mem_of_getElem? (i := 42) (by decide +kernel))) rfl⟩
theorem cl_Jx4a65c_7 : Cond.classLink RJx4a65c 7 "java/lang/Object" ∈ wall := wl (pc5 _ (List.mem_of_getElem? (i := 235) (by decide +kernel))) rfl
theorem cl_J7_2 : Cond.classLink RJ7 2 "java/lang/Object" ∈ wall := wl (pc5 _ (List.mem_of_getElem? (i := 233) (by decide +kernel))) rfl
theorem cl_J7_110 : Cond.classLink RJ7 110 "[Ljava/lang/Object;" ∈ wall := wl (pc5 _ (List.mem_of_getElem? (i := 231) (by decide +kernel))) rfl
theorem ck_J7_310 : CLk RJ7 310 "[B" := ⟨wl (pc3 _ (List.mem_of_getElem? (i := 164) (by decide +kernel))) rfl, wl (pc3 _ (List.mem_of_getElem? (i := 165) (by decide +kernel))) rfl, wl (pc3 _ (List.mem_of_getElem? (i := 166) (by decide +kernel))) rfl, wl (pc3 _ (List.mem_of_getElem? (i := 167) (by decide +kernel))) rfl, wl (pc3 _ (List.mem_of_getElem? (i := 168) (by decide +kernel))) rfl, by decide⟩
theorem cl_J7_311 : Cond.classLink RJ7 311 "[B" ∈ wall := wl (pc3 _ (List.mem_of_getElem? (i := 170) (by decide +kernel))) rfl
theorem nw_L_7 : NWk RL 7 14 6 [.null, .null, .int 0, .int 0, .int 0, .int 0] := ⟨RX12, TX12, tyX12, rfl, wl (pc1 _ (List.mem_of_getElem? (i := 35) (by decide +kernel))) rfl, wl (pc1 _ (List.mem_of_getElem? (i := 36) (by decide +kernel))) rfl, wl (pc1 _ (List.mem_of_getElem? (i := 1) (by decide +kernel))) rfl, wx_X12, tyX12_ok, df_X12⟩
theorem ni_X11 : (RX12, 157, yX11_init) ∈ nyl ∧ Cond.instanceMethod yX11_init ∈ wall ∧ Cond.initialized yX11_init.cls ∈ wall ∧ Cond.code yX11_init cX11_init 1 none ∈ wall := ⟨by decide, wl (pc3 _ (List.mem_of_getElem? (i := 60) (by decide +kernel))) rfl, wl (pc1 _ (List.mem_of_getElem? (i := 18) (by decide +kernel))) rfl, wl (pc3 _ (List.mem_of_getElem? (i := 61) (by decide +kernel))) rfl⟩
theorem nt_X11 : Cond.methodLinkNest RX12 157 yX11_init "MustNotStopLaw" ∈ lw_tbl := pc3 _ (List.mem_of_getElem? (i := 59) (by decide +kernel))
theorem ni_X12 : (RL, 9, yX12_init) ∈ nyl ∧ Cond.instanceMethod yX12_init ∈ wall ∧ Cond.initialized yX12_init.cls ∈ wall ∧ Cond.code yX12_init cX12_init 1 none ∈ wall := ⟨by decide, wl (pc1 _ (List.mem_of_getElem? (i := 38) (by decide +kernel))) rfl, wl (pc1 _ (List.mem_of_getElem? (i := 1) (by decide +kernel))) rfl, wl (pc1 _ (List.mem_of_getElem? (i := 39) (by decide +kernel))) rfl⟩
theorem nt_X12 : Cond.methodLinkNest RL 9 yX12_init "MustNotStopLaw" ∈ lw_tbl := pc1 _ (List.mem_of_getElem? (i := 37) (by decide +kernel))
theorem ac_byte : Cond.arrayClass .byte ∈ wall := wl (pc3 _ (List.mem_of_getElem? (i := 100) (by decide +kernel))) rfl
theorem nkY_X11_init : yX11_init.name = "<init>" ∧ yX11_init.cls ≠ "java/lang/invoke/MethodHandle" ∧ yX11_init.cls ≠ "java/lang/invoke/VarHandle" ∧ (parseMethodDescriptor yX11_init.desc).map (fun d => d.parameters.length) = some 0 := ⟨rfl, by decide, by decide, by decide +kernel⟩
theorem nkY_X11_copy : MNk yX11_copy RX11 0 := ⟨rfl, by decide, by decide, by decide +kernel⟩
theorem nkY_X11_bits : MNk yX11_bits RX11 0 := ⟨rfl, by decide, by decide, by decide +kernel⟩
theorem nkY_X11_doubt : MNk yX11_doubt RX11 0 := ⟨rfl, by decide, by decide, by decide +kernel⟩
theorem nkY_X11_only : MNk yX11_only RX11 1 := ⟨rfl, by decide, by decide, by decide +kernel⟩
theorem nkY_X12_init : yX12_init.name = "<init>" ∧ yX12_init.cls ≠ "java/lang/invoke/MethodHandle" ∧ yX12_init.cls ≠ "java/lang/invoke/VarHandle" ∧ (parseMethodDescriptor yX12_init.desc).map (fun d => d.parameters.length) = some 0 := ⟨rfl, by decide, by decide, by decide +kernel⟩
theorem nkY_X12_cell : MNk yX12_cell RX12 2 := ⟨rfl, by decide, by decide, by decide +kernel⟩
theorem nkY_X12_row : MNk yX12_row RX12 2 := ⟨rfl, by decide, by decide, by decide +kernel⟩
theorem nkY_X12_ringer : MNk yX12_ringer RX12 3 := ⟨rfl, by decide, by decide, by decide +kernel⟩
theorem nkY_X12_person : MNk yX12_person RX12 3 := ⟨rfl, by decide, by decide, by decide +kernel⟩
theorem nkY_X12_text : MNk yX12_text RX12 2 := ⟨rfl, by decide, by decide, by decide +kernel⟩
theorem nkY_X12_isRow : MNk yX12_isRow RX12 2 := ⟨rfl, by decide, by decide, by decide +kernel⟩
theorem nkY_X12_by : MNk yX12_by RX12 4 := ⟨rfl, by decide, by decide, by decide +kernel⟩
theorem nkY_X12_loud : MNk yX12_loud RX12 1 := ⟨rfl, by decide, by decide, by decide +kernel⟩
theorem nkY_X12_minute : MNk yX12_minute RX12 1 := ⟨rfl, by decide, by decide, by decide +kernel⟩
theorem nkY_X12_goes : MNk yX12_goes RX12 2 := ⟨rfl, by decide, by decide, by decide +kernel⟩
theorem nkY_X12_take : MNk yX12_take RX12 2 := ⟨rfl, by decide, by decide, by decide +kernel⟩
theorem nkY_X12_leave : MNk yX12_leave RX12 2 := ⟨rfl, by decide, by decide, by decide +kernel⟩
theorem nkY_X12_build : MNk yX12_build RX12 4 := ⟨rfl, by decide, by decide, by decide +kernel⟩
theorem nkY_X12_isAs : MNk yX12_isAs RX12 2 := ⟨rfl, by decide, by decide, by decide +kernel⟩
theorem nkY_X12_holds : MNk yX12_holds RX12 1 := ⟨rfl, by decide, by decide, by decide +kernel⟩
theorem nkY_J5_init_d00df : yJ5_init_d00df.name = "<init>" ∧ yJ5_init_d00df.cls ≠ "java/lang/invoke/MethodHandle" ∧ yJ5_init_d00df.cls ≠ "java/lang/invoke/VarHandle" ∧ (parseMethodDescriptor yJ5_init_d00df.desc).map (fun d => d.parameters.length) = some 1 := ⟨rfl, by decide, by decide, by decide +kernel⟩
theorem nkY_J5_length_8abf5 : MNk yJ5_length_8abf5 RJ5 0 := ⟨rfl, by decide, by decide, by decide +kernel⟩
theorem nkY_J5_ensureCapacityInternal_d00df : MNk yJ5_ensureCapacityInternal_d00df RJ5 1 := ⟨rfl, by decide, by decide, by decide +kernel⟩
theorem nkY_J5_newCapacity_0f7a4 : MNk yJ5_newCapacity_0f7a4 RJ5 1 := ⟨rfl, by decide, by decide, by decide +kernel⟩
theorem nkY_J5_inflate_da8c8 : MNk yJ5_inflate_da8c8 RJ5 0 := ⟨rfl, by decide, by decide, by decide +kernel⟩
theorem nkY_J5_append_cf1ce : MNk yJ5_append_cf1ce RJ5 1 := ⟨rfl, by decide, by decide, by decide +kernel⟩
theorem nkY_J5_appendNull_278bc : MNk yJ5_appendNull_278bc RJ5 0 := ⟨rfl, by decide, by decide, by decide +kernel⟩
theorem nkY_J5_append_c97b9 : MNk yJ5_append_c97b9 RJ5 1 := ⟨rfl, by decide, by decide, by decide +kernel⟩
theorem nkY_J5_getValue_6d5f1 : MNk yJ5_getValue_6d5f1 RJ5 0 := ⟨rfl, by decide, by decide, by decide +kernel⟩
theorem nkY_J5_isLatin1_aae02 : MNk yJ5_isLatin1_aae02 RJ5 0 := ⟨rfl, by decide, by decide, by decide +kernel⟩
theorem nkY_J5_inflateIfNeededFor_a7421 : MNk yJ5_inflateIfNeededFor_a7421 RJ5 1 := ⟨rfl, by decide, by decide, by decide +kernel⟩
theorem nkY_J5_putStringAt_47b60 : MNk yJ5_putStringAt_47b60 RJ5 2 := ⟨rfl, by decide, by decide, by decide +kernel⟩
theorem nkY_J11_isValidCodePoint_9a6ad : MNk yJ11_isValidCodePoint_9a6ad RJ11 1 := ⟨rfl, by decide, by decide, by decide +kernel⟩
theorem nkY_J11_highSurrogate_5068e : MNk yJ11_highSurrogate_5068e RJ11 1 := ⟨rfl, by decide, by decide, by decide +kernel⟩
theorem nkY_J11_lowSurrogate_5068e : MNk yJ11_lowSurrogate_5068e RJ11 1 := ⟨rfl, by decide, by decide, by decide +kernel⟩
theorem nkY_J6_getChars_ba4f3 : MNk yJ6_getChars_ba4f3 RJ6 3 := ⟨rfl, by decide, by decide, by decide +kernel⟩
theorem nkY_J6_stringSize_0f7a4 : MNk yJ6_stringSize_0f7a4 RJ6 1 := ⟨rfl, by decide, by decide, by decide +kernel⟩
theorem nkY_J6_bitCount_0f7a4 : MNk yJ6_bitCount_0f7a4 RJ6 1 := ⟨rfl, by decide, by decide, by decide +kernel⟩
theorem nkY_J9_floorMod_7cf53 : MNk yJ9_floorMod_7cf53 RJ9 2 := ⟨rfl, by decide, by decide, by decide +kernel⟩
theorem nkY_J9_max_7cf53 : MNk yJ9_max_7cf53 RJ9 2 := ⟨rfl, by decide, by decide, by decide +kernel⟩
theorem nkY_J9_min_7cf53 : MNk yJ9_min_7cf53 RJ9 2 := ⟨rfl, by decide, by decide, by decide +kernel⟩
theorem nkY_J0_init_81219 : yJ0_init_81219.name = "<init>" ∧ yJ0_init_81219.cls ≠ "java/lang/invoke/MethodHandle" ∧ yJ0_init_81219.cls ≠ "java/lang/invoke/VarHandle" ∧ (parseMethodDescriptor yJ0_init_81219.desc).map (fun d => d.parameters.length) = some 1 := ⟨rfl, by decide, by decide, by decide +kernel⟩
theorem nkY_J0_length_8abf5 : MNk yJ0_length_8abf5 RJ0 0 := ⟨rfl, by decide, by decide, by decide +kernel⟩
theorem nkY_J0_charAt_5068e : MNk yJ0_charAt_5068e RJ0 1 := ⟨rfl, by decide, by decide, by decide +kernel⟩
theorem nkY_J0_indexOf_0f7a4 : MNk yJ0_indexOf_0f7a4 RJ0 1 := ⟨rfl, by decide, by decide, by decide +kernel⟩
theorem nkY_J0_indexOf_7cf53 : MNk yJ0_indexOf_7cf53 RJ0 2 := ⟨rfl, by decide, by decide, by decide +kernel⟩
theorem nkY_J0_getBytes_840e7 : MNk yJ0_getBytes_840e7 RJ0 3 := ⟨rfl, by decide, by decide, by decide +kernel⟩
theorem nkY_J0_init_db425 : yJ0_init_db425.name = "<init>" ∧ yJ0_init_db425.cls ≠ "java/lang/invoke/MethodHandle" ∧ yJ0_init_db425.cls ≠ "java/lang/invoke/VarHandle" ∧ (parseMethodDescriptor yJ0_init_db425.desc).map (fun d => d.parameters.length) = some 2 := ⟨rfl, by decide, by decide, by decide +kernel⟩
theorem nkY_J0_coder_7d493 : MNk yJ0_coder_7d493 RJ0 0 := ⟨rfl, by decide, by decide, by decide +kernel⟩
theorem nkY_J0_isLatin1_aae02 : MNk yJ0_isLatin1_aae02 RJ0 0 := ⟨rfl, by decide, by decide, by decide +kernel⟩
theorem nkY_J0_checkIndex_df160 : MNk yJ0_checkIndex_df160 RJ0 2 := ⟨rfl, by decide, by decide, by decide +kernel⟩
theorem nkY_J0_checkBoundsOffCount_cabcc : MNk yJ0_checkBoundsOffCount_cabcc RJ0 3 := ⟨rfl, by decide, by decide, by decide +kernel⟩
theorem nkY_J0_checkBoundsBeginEnd_23922 : MNk yJ0_checkBoundsBeginEnd_23922 RJ0 3 := ⟨rfl, by decide, by decide, by decide +kernel⟩
theorem nkY_J4_init_da8c8 : yJ4_init_da8c8.name = "<init>" ∧ yJ4_init_da8c8.cls ≠ "java/lang/invoke/MethodHandle" ∧ yJ4_init_da8c8.cls ≠ "java/lang/invoke/VarHandle" ∧ (parseMethodDescriptor yJ4_init_da8c8.desc).map (fun d => d.parameters.length) = some 0 := ⟨rfl, by decide, by decide, by decide +kernel⟩
theorem nkY_J4_append_15ec4 : MNk yJ4_append_15ec4 RJ4 1 := ⟨rfl, by decide, by decide, by decide +kernel⟩
theorem nkY_J4_append_bf812 : MNk yJ4_append_bf812 RJ4 1 := ⟨rfl, by decide, by decide, by decide +kernel⟩
theorem nkY_J4_toString_0e30d : MNk yJ4_toString_0e30d RJ4 0 := ⟨rfl, by decide, by decide, by decide +kernel⟩
theorem nkY_J4_length_8abf5 : MNk yJ4_length_8abf5 RJ4 0 := ⟨rfl, by decide, by decide, by decide +kernel⟩
theorem nkY_J1_charAt_3b067 : MNk yJ1_charAt_3b067 RJ1 2 := ⟨rfl, by decide, by decide, by decide +kernel⟩
theorem nkY_J1_canEncode_9a6ad : MNk yJ1_canEncode_9a6ad RJ1 1 := ⟨rfl, by decide, by decide, by decide +kernel⟩
theorem nkY_J1_indexOf_4cfef : MNk yJ1_indexOf_4cfef RJ1 4 := ⟨rfl, by decide, by decide, by decide +kernel⟩
theorem nkY_J1_indexOfChar_4cfef : MNk yJ1_indexOfChar_4cfef RJ1 4 := ⟨rfl, by decide, by decide, by decide +kernel⟩
theorem nkY_J1_inflate_0e8fd : MNk yJ1_inflate_0e8fd RJ1 5 := ⟨rfl, by decide, by decide, by decide +kernel⟩
theorem nkY_J2_newBytesFor_77867 : MNk yJ2_newBytesFor_77867 RJ2 1 := ⟨rfl, by decide, by decide, by decide +kernel⟩
theorem nkY_J2_newBytesLength_0f7a4 : MNk yJ2_newBytesLength_0f7a4 RJ2 1 := ⟨rfl, by decide, by decide, by decide +kernel⟩
theorem nkY_J2_putChar_b72d1 : MNk yJ2_putChar_b72d1 RJ2 3 := ⟨rfl, by decide, by decide, by decide +kernel⟩
theorem nkY_J2_getChar_3b067 : MNk yJ2_getChar_3b067 RJ2 2 := ⟨rfl, by decide, by decide, by decide +kernel⟩
theorem nkY_J2_length_9d52b : MNk yJ2_length_9d52b RJ2 1 := ⟨rfl, by decide, by decide, by decide +kernel⟩
theorem nkY_J2_coderFromArrayLen_85cad : MNk yJ2_coderFromArrayLen_85cad RJ2 2 := ⟨rfl, by decide, by decide, by decide +kernel⟩
theorem nkY_J2_compress_39247 : MNk yJ2_compress_39247 RJ2 3 := ⟨rfl, by decide, by decide, by decide +kernel⟩
theorem nkY_J2_compress_5af95 : MNk yJ2_compress_5af95 RJ2 5 := ⟨rfl, by decide, by decide, by decide +kernel⟩
theorem nkY_J2_indexOf_4cfef : MNk yJ2_indexOf_4cfef RJ2 4 := ⟨rfl, by decide, by decide, by decide +kernel⟩
theorem nkY_J2_indexOfChar_4cfef : MNk yJ2_indexOfChar_4cfef RJ2 4 := ⟨rfl, by decide, by decide, by decide +kernel⟩
theorem nkY_J2_indexOfCharUnsafe_4cfef : MNk yJ2_indexOfCharUnsafe_4cfef RJ2 4 := ⟨rfl, by decide, by decide, by decide +kernel⟩
theorem nkY_J2_indexOfSupplementary_4cfef : MNk yJ2_indexOfSupplementary_4cfef RJ2 4 := ⟨rfl, by decide, by decide, by decide +kernel⟩
theorem nkY_J2_getChars_46870 : MNk yJ2_getChars_46870 RJ2 4 := ⟨rfl, by decide, by decide, by decide +kernel⟩
theorem nkY_J2_putCharsAt_cd4e5 : MNk yJ2_putCharsAt_cd4e5 RJ2 6 := ⟨rfl, by decide, by decide, by decide +kernel⟩
theorem nkY_J2_charAt_3b067 : MNk yJ2_charAt_3b067 RJ2 2 := ⟨rfl, by decide, by decide, by decide +kernel⟩
theorem nkY_J2_inflate_0e8fd : MNk yJ2_inflate_0e8fd RJ2 5 := ⟨rfl, by decide, by decide, by decide +kernel⟩
theorem nkY_J2_getChars_ba4f3 : MNk yJ2_getChars_ba4f3 RJ2 3 := ⟨rfl, by decide, by decide, by decide +kernel⟩
theorem nkY_J2_checkIndex_2214a : MNk yJ2_checkIndex_2214a RJ2 2 := ⟨rfl, by decide, by decide, by decide +kernel⟩
theorem nkY_J2_checkBoundsBeginEnd_d044e : MNk yJ2_checkBoundsBeginEnd_d044e RJ2 3 := ⟨rfl, by decide, by decide, by decide +kernel⟩
theorem nkY_J2_checkBoundsOffCount_d044e : MNk yJ2_checkBoundsOffCount_d044e RJ2 3 := ⟨rfl, by decide, by decide, by decide +kernel⟩
theorem nkY_Jxa1e45_init_da8c8 : yJxa1e45_init_da8c8.name = "<init>" ∧ yJxa1e45_init_da8c8.cls ≠ "java/lang/invoke/MethodHandle" ∧ yJxa1e45_init_da8c8.cls ≠ "java/lang/invoke/VarHandle" ∧ (parseMethodDescriptor yJxa1e45_init_da8c8.desc).map (fun d => d.parameters.length) = some 0 := ⟨rfl, by decide, by decide, by decide +kernel⟩
theorem nkY_Jxc12de_init_da8c8 : yJxc12de_init_da8c8.name = "<init>" ∧ yJxc12de_init_da8c8.cls ≠ "java/lang/invoke/MethodHandle" ∧ yJxc12de_init_da8c8.cls ≠ "java/lang/invoke/VarHandle" ∧ (parseMethodDescriptor yJxc12de_init_da8c8.desc).map (fun d => d.parameters.length) = some 0 := ⟨rfl, by decide, by decide, by decide +kernel⟩
theorem nkY_Jx4a65c_init_da8c8 : yJx4a65c_init_da8c8.name = "<init>" ∧ yJx4a65c_init_da8c8.cls ≠ "java/lang/invoke/MethodHandle" ∧ yJx4a65c_init_da8c8.cls ≠ "java/lang/invoke/VarHandle" ∧ (parseMethodDescriptor yJx4a65c_init_da8c8.desc).map (fun d => d.parameters.length) = some 0 := ⟨rfl, by decide, by decide, by decide +kernel⟩
theorem nkY_Jx4a65c_grow_92f84 : MNk yJx4a65c_grow_92f84 RJx4a65c 1 := ⟨rfl, by decide, by decide, by decide +kernel⟩
theorem nkY_Jx4a65c_grow_d5877 : MNk yJx4a65c_grow_d5877 RJx4a65c 0 := ⟨rfl, by decide, by decide, by decide +kernel⟩
theorem nkY_Jx4a65c_size_8abf5 : MNk yJx4a65c_size_8abf5 RJx4a65c 0 := ⟨rfl, by decide, by decide, by decide +kernel⟩
theorem nkY_Jx4a65c_isEmpty_aae02 : MNk yJx4a65c_isEmpty_aae02 RJx4a65c 0 := ⟨rfl, by decide, by decide, by decide +kernel⟩
theorem nkY_Jx4a65c_elementData_915e3 : MNk yJx4a65c_elementData_915e3 RJx4a65c 1 := ⟨rfl, by decide, by decide, by decide +kernel⟩
theorem nkY_Jx4a65c_get_915e3 : MNk yJx4a65c_get_915e3 RJx4a65c 1 := ⟨rfl, by decide, by decide, by decide +kernel⟩
theorem nkY_Jx4a65c_add_72be8 : MNk yJx4a65c_add_72be8 RJx4a65c 3 := ⟨rfl, by decide, by decide, by decide +kernel⟩
theorem nkY_Jx4a65c_add_9ea2d : MNk yJx4a65c_add_9ea2d RJx4a65c 1 := ⟨rfl, by decide, by decide, by decide +kernel⟩
theorem nkY_Jx4a65c_remove_915e3 : MNk yJx4a65c_remove_915e3 RJx4a65c 1 := ⟨rfl, by decide, by decide, by decide +kernel⟩
theorem nkY_Jx4a65c_fastRemove_b59b0 : MNk yJx4a65c_fastRemove_b59b0 RJx4a65c 2 := ⟨rfl, by decide, by decide, by decide +kernel⟩
theorem nkY_J7_copyOf_1904c : MNk yJ7_copyOf_1904c RJ7 2 := ⟨rfl, by decide, by decide, by decide +kernel⟩
theorem nkY_J7_copyOf_6403c : MNk yJ7_copyOf_6403c RJ7 3 := ⟨rfl, by decide, by decide, by decide +kernel⟩
theorem nkY_J7_copyOf_9075b : MNk yJ7_copyOf_9075b RJ7 2 := ⟨rfl, by decide, by decide, by decide +kernel⟩
theorem nkY_J7_checkLength_df160 : MNk yJ7_checkLength_df160 RJ7 2 := ⟨rfl, by decide, by decide, by decide +kernel⟩
theorem nkY_J7_copyOfRange_39247 : MNk yJ7_copyOfRange_39247 RJ7 3 := ⟨rfl, by decide, by decide, by decide +kernel⟩
theorem nkY_J7_copyOfRangeByte_39247 : MNk yJ7_copyOfRangeByte_39247 RJ7 3 := ⟨rfl, by decide, by decide, by decide +kernel⟩
theorem nkY_J15_checkIndex_7cf53 : MNk yJ15_checkIndex_7cf53 RJ15 2 := ⟨rfl, by decide, by decide, by decide +kernel⟩
theorem nkY_J8_newLength_cabcc : MNk yJ8_newLength_cabcc RJ8 3 := ⟨rfl, by decide, by decide, by decide +kernel⟩
theorem nkY_J8_hugeLength_7cf53 : MNk yJ8_hugeLength_7cf53 RJ8 2 := ⟨rfl, by decide, by decide, by decide +kernel⟩
theorem nkY_J3_checkIndex_8e157 : MNk yJ3_checkIndex_8e157 RJ3 3 := ⟨rfl, by decide, by decide, by decide +kernel⟩
theorem nkY_J3_checkFromToIndex_8c36e : MNk yJ3_checkFromToIndex_8c36e RJ3 4 := ⟨rfl, by decide, by decide, by decide +kernel⟩
theorem nkY_J3_checkFromIndexSize_8c36e : MNk yJ3_checkFromIndexSize_8c36e RJ3 4 := ⟨rfl, by decide, by decide, by decide +kernel⟩
