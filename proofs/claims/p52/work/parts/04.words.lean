def wall : List Cond := lw_tbl.filter goodWord
theorem wl {w : Cond} (h : w ∈ lw_tbl) (g : goodWord w = true) : w ∈ wall := List.mem_filter.mpr ⟨h, g⟩
theorem wall_in {w : Cond} (h : w ∈ wall) : w ∈ lw_tbl := (List.mem_filter.mp h).1
theorem wall_good {w : Cond} (h : w ∈ wall) : goodWord w = true := (List.mem_filter.mp h).2
theorem pcS : ∀ w ∈ k2_sels lw_privs, w ∈ lw_tbl := fun _ h => List.mem_append_left _ h
theorem pc1 : ∀ w ∈ tables_1_1, w ∈ lw_tbl := fun _ h => List.mem_append_right _ (show _ ∈ tables_1 from by unfold tables_1; exact List.mem_append_left _ h)
theorem pc2 : ∀ w ∈ tables_1_2, w ∈ lw_tbl := fun _ h => List.mem_append_right _ (show _ ∈ tables_1 from by unfold tables_1; exact List.mem_append_right _ (List.mem_append_left _ h))
theorem pc3 : ∀ w ∈ tables_1_3, w ∈ lw_tbl := fun _ h => List.mem_append_right _ (show _ ∈ tables_1 from by unfold tables_1; exact List.mem_append_right _ (List.mem_append_right _ (List.mem_append_left _ h)))
theorem pc4 : ∀ w ∈ tables_1_4, w ∈ lw_tbl := fun _ h => List.mem_append_right _ (show _ ∈ tables_1 from by unfold tables_1; exact List.mem_append_right _ (List.mem_append_right _ (List.mem_append_right _ (List.mem_append_left _ h))))
theorem pc5 : ∀ w ∈ tables_1_5, w ∈ lw_tbl := fun _ h => List.mem_append_right _ (show _ ∈ tables_1 from by unfold tables_1; exact List.mem_append_right _ (List.mem_append_right _ (List.mem_append_right _ (List.mem_append_right _ (List.mem_append_left _ h)))))
theorem pc6 : ∀ w ∈ tables_1_6, w ∈ lw_tbl := fun _ h => List.mem_append_right _ (show _ ∈ tables_1 from by unfold tables_1; exact List.mem_append_right _ (List.mem_append_right _ (List.mem_append_right _ (List.mem_append_right _ (List.mem_append_right _ (h))))))
/-- a field of a class, as an instruction of the class 'own' names it -/
def FLk (own : String) (index ci k : Nat) : Prop := ∃ (C : String) (T : u_T) (N : Nat), vwCl[ci]? = some (C, T, N) ∧ k < N ∧ Cond.fieldLink own index (T k).1 (T k).2.1 (T k).2.2.1 ∈ wall ∧ (∀ w ∈ u_ws C T N, w ∈ wall)
/-- and it may be written -/
def FLw (own : String) (index ci k : Nat) (ty : FieldType) : Prop := ∃ (C : String) (T : u_T) (N : Nat) (ty0 : Nat → FieldType), vwCl[ci]? = some (C, T, N) ∧ k < N ∧ Cond.fieldLink own index (T k).1 (T k).2.1 (T k).2.2.1 ∈ wall ∧ (∀ w ∈ u_ws C T N, w ∈ wall) ∧
  (∀ k, k < N → parseFieldDescriptor (T k).2.2.1 = some (ty0 k)) ∧ (∀ a, a < N → ∀ b, b < N → a ≠ b → (T a).2.1 ≠ (T b).2.1) ∧ (T k).2.2.2 = false ∧ parseFieldDescriptor (T k).2.2.1 = some ty
/-- a method that is called on an object; on a class; a constructor -/
def MVk (own : String) (index : Nat) (C : String) (y : MethodName) (cc : ByteArray) (n : Nat) (ret : Option FieldType) : Prop :=
  Cond.methodLink own index y ∈ wall ∧ Cond.instanceMethod y ∈ wall ∧ Cond.selects C y y ∈ wall ∧ Cond.initialized C ∈ wall ∧ Cond.code y cc n ret ∈ wall
def MSk (own : String) (index : Nat) (y : MethodName) (cc : ByteArray) (n : Nat) (ret : Option FieldType) : Prop :=
  Cond.methodLink own index y ∈ wall ∧ Cond.static y ∈ wall ∧ Cond.initialized y.cls ∈ wall ∧ Cond.code y cc n ret ∈ wall
def MIk (own : String) (index : Nat) (y : MethodName) (cc : ByteArray) (n : Nat) (ret : Option FieldType) : Prop :=
  Cond.methodLink own index y ∈ wall ∧ Cond.instanceMethod y ∈ wall ∧ Cond.initialized y.cls ∈ wall ∧ Cond.code y cc n ret ∈ wall
def Mth (own : String) (index : Nat) (y : MethodName) (cc : ByteArray) : Prop :=
  Cond.methodLink own index y ∈ wall ∧ Cond.static y ∈ wall ∧ Cond.initialized "java/lang/Math" ∈ wall ∧ Cond.code y cc 2 (some .int) ∈ wall
theorem la_J0_0 : u_lay RJ0 TJ0 0 ∈ wall := wl (pc4 _ (List.mem_of_getElem? (i := 54) (by decide +kernel))) rfl
theorem la_J0_1 : u_lay RJ0 TJ0 1 ∈ wall := wl (pc4 _ (List.mem_of_getElem? (i := 56) (by decide +kernel))) rfl
theorem la_J0_2 : u_lay RJ0 TJ0 2 ∈ wall := wl (pc4 _ (List.mem_of_getElem? (i := 58) (by decide +kernel))) rfl
theorem la_J0_3 : u_lay RJ0 TJ0 3 ∈ wall := wl (pc4 _ (List.mem_of_getElem? (i := 60) (by decide +kernel))) rfl
theorem wx_J0 : ∀ w ∈ u_ws RJ0 TJ0 4, w ∈ wall := by
  intro w hw
  obtain ⟨k, hk, rfl⟩ := List.mem_map.mp hw
  have hk := List.mem_range.mp hk
  match k, hk with
  | 0, _ => exact la_J0_0
  | 1, _ => exact la_J0_1
  | 2, _ => exact la_J0_2
  | 3, _ => exact la_J0_3
  | n + 4, h => exact absurd h (by omega)
theorem la_J4_0 : u_lay RJ4 TJ4 0 ∈ wall := wl (pc3 _ (List.mem_of_getElem? (i := 122) (by decide +kernel))) rfl
theorem la_J4_1 : u_lay RJ4 TJ4 1 ∈ wall := wl (pc3 _ (List.mem_of_getElem? (i := 124) (by decide +kernel))) rfl
theorem la_J4_2 : u_lay RJ4 TJ4 2 ∈ wall := wl (pc3 _ (List.mem_of_getElem? (i := 126) (by decide +kernel))) rfl
theorem la_J4_3 : u_lay RJ4 TJ4 3 ∈ wall := wl (pc3 _ (List.mem_of_getElem? (i := 128) (by decide +kernel))) rfl
theorem wx_J4 : ∀ w ∈ u_ws RJ4 TJ4 4, w ∈ wall := by
  intro w hw
  obtain ⟨k, hk, rfl⟩ := List.mem_map.mp hw
  have hk := List.mem_range.mp hk
  match k, hk with
  | 0, _ => exact la_J4_0
  | 1, _ => exact la_J4_1
  | 2, _ => exact la_J4_2
  | 3, _ => exact la_J4_3
  | n + 4, h => exact absurd h (by omega)
theorem la_Jx4a65c_0 : u_lay RJx4a65c TJx4a65c 0 ∈ wall := wl (pc5 _ (List.mem_of_getElem? (i := 185) (by decide +kernel))) rfl
theorem la_Jx4a65c_1 : u_lay RJx4a65c TJx4a65c 1 ∈ wall := wl (pc5 _ (List.mem_of_getElem? (i := 181) (by decide +kernel))) rfl
theorem la_Jx4a65c_2 : u_lay RJx4a65c TJx4a65c 2 ∈ wall := wl (pc5 _ (List.mem_of_getElem? (i := 183) (by decide +kernel))) rfl
theorem wx_Jx4a65c : ∀ w ∈ u_ws RJx4a65c TJx4a65c 3, w ∈ wall := by
  intro w hw
  obtain ⟨k, hk, rfl⟩ := List.mem_map.mp hw
  have hk := List.mem_range.mp hk
  match k, hk with
  | 0, _ => exact la_Jx4a65c_0
  | 1, _ => exact la_Jx4a65c_1
  | 2, _ => exact la_Jx4a65c_2
  | n + 3, h => exact absurd h (by omega)
theorem la_X1_0 : u_lay RX1 TX1 0 ∈ wall := wl (pc1 _ (List.mem_of_getElem? (i := 221) (by decide +kernel))) rfl
theorem la_X1_1 : u_lay RX1 TX1 1 ∈ wall := wl (pc1 _ (List.mem_of_getElem? (i := 223) (by decide +kernel))) rfl
theorem la_X1_2 : u_lay RX1 TX1 2 ∈ wall := wl (pc1 _ (List.mem_of_getElem? (i := 225) (by decide +kernel))) rfl
theorem la_X1_3 : u_lay RX1 TX1 3 ∈ wall := wl (pc1 _ (List.mem_of_getElem? (i := 227) (by decide +kernel))) rfl
theorem la_X1_4 : u_lay RX1 TX1 4 ∈ wall := wl (pc1 _ (List.mem_of_getElem? (i := 229) (by decide +kernel))) rfl
theorem la_X1_5 : u_lay RX1 TX1 5 ∈ wall := wl (pc1 _ (List.mem_of_getElem? (i := 231) (by decide +kernel))) rfl
theorem la_X1_6 : u_lay RX1 TX1 6 ∈ wall := wl (pc1 _ (List.mem_of_getElem? (i := 233) (by decide +kernel))) rfl
theorem la_X1_7 : u_lay RX1 TX1 7 ∈ wall := wl (pc1 _ (List.mem_of_getElem? (i := 235) (by decide +kernel))) rfl
theorem la_X1_8 : u_lay RX1 TX1 8 ∈ wall := wl (pc1 _ (List.mem_of_getElem? (i := 237) (by decide +kernel))) rfl
theorem wx_X1 : ∀ w ∈ u_ws RX1 TX1 9, w ∈ wall := by
  intro w hw
  obtain ⟨k, hk, rfl⟩ := List.mem_map.mp hw
  have hk := List.mem_range.mp hk
  match k, hk with
  | 0, _ => exact la_X1_0
  | 1, _ => exact la_X1_1
  | 2, _ => exact la_X1_2
  | 3, _ => exact la_X1_3
  | 4, _ => exact la_X1_4
  | 5, _ => exact la_X1_5
  | 6, _ => exact la_X1_6
  | 7, _ => exact la_X1_7
  | 8, _ => exact la_X1_8
  | n + 9, h => exact absurd h (by omega)
theorem la_X2_0 : u_lay RX2 TX2 0 ∈ wall := wl (pc1 _ (List.mem_of_getElem? (i := 140) (by decide +kernel))) rfl
theorem la_X2_1 : u_lay RX2 TX2 1 ∈ wall := wl (pc1 _ (List.mem_of_getElem? (i := 142) (by decide +kernel))) rfl
theorem la_X2_2 : u_lay RX2 TX2 2 ∈ wall := wl (pc1 _ (List.mem_of_getElem? (i := 144) (by decide +kernel))) rfl
theorem la_X2_3 : u_lay RX2 TX2 3 ∈ wall := wl (pc1 _ (List.mem_of_getElem? (i := 146) (by decide +kernel))) rfl
theorem la_X2_4 : u_lay RX2 TX2 4 ∈ wall := wl (pc1 _ (List.mem_of_getElem? (i := 148) (by decide +kernel))) rfl
theorem la_X2_5 : u_lay RX2 TX2 5 ∈ wall := wl (pc1 _ (List.mem_of_getElem? (i := 150) (by decide +kernel))) rfl
theorem la_X2_6 : u_lay RX2 TX2 6 ∈ wall := wl (pc1 _ (List.mem_of_getElem? (i := 152) (by decide +kernel))) rfl
theorem la_X2_7 : u_lay RX2 TX2 7 ∈ wall := wl (pc1 _ (List.mem_of_getElem? (i := 154) (by decide +kernel))) rfl
theorem la_X2_8 : u_lay RX2 TX2 8 ∈ wall := wl (pc1 _ (List.mem_of_getElem? (i := 156) (by decide +kernel))) rfl
theorem la_X2_9 : u_lay RX2 TX2 9 ∈ wall := wl (pc1 _ (List.mem_of_getElem? (i := 158) (by decide +kernel))) rfl
theorem wx_X2 : ∀ w ∈ u_ws RX2 TX2 10, w ∈ wall := by
  intro w hw
  obtain ⟨k, hk, rfl⟩ := List.mem_map.mp hw
  have hk := List.mem_range.mp hk
  match k, hk with
  | 0, _ => exact la_X2_0
  | 1, _ => exact la_X2_1
  | 2, _ => exact la_X2_2
  | 3, _ => exact la_X2_3
  | 4, _ => exact la_X2_4
  | 5, _ => exact la_X2_5
  | 6, _ => exact la_X2_6
  | 7, _ => exact la_X2_7
  | 8, _ => exact la_X2_8
  | 9, _ => exact la_X2_9
  | n + 10, h => exact absurd h (by omega)
theorem la_X3_0 : u_lay RX3 TX3 0 ∈ wall := wl (pc2 _ (List.mem_of_getElem? (i := 51) (by decide +kernel))) rfl
theorem la_X3_1 : u_lay RX3 TX3 1 ∈ wall := wl (pc2 _ (List.mem_of_getElem? (i := 53) (by decide +kernel))) rfl
theorem la_X3_2 : u_lay RX3 TX3 2 ∈ wall := wl (pc2 _ (List.mem_of_getElem? (i := 55) (by decide +kernel))) rfl
theorem la_X3_3 : u_lay RX3 TX3 3 ∈ wall := wl (pc2 _ (List.mem_of_getElem? (i := 57) (by decide +kernel))) rfl
theorem la_X3_4 : u_lay RX3 TX3 4 ∈ wall := wl (pc2 _ (List.mem_of_getElem? (i := 59) (by decide +kernel))) rfl
theorem la_X3_5 : u_lay RX3 TX3 5 ∈ wall := wl (pc2 _ (List.mem_of_getElem? (i := 61) (by decide +kernel))) rfl
theorem wx_X3 : ∀ w ∈ u_ws RX3 TX3 6, w ∈ wall := by
  intro w hw
  obtain ⟨k, hk, rfl⟩ := List.mem_map.mp hw
  have hk := List.mem_range.mp hk
  match k, hk with
  | 0, _ => exact la_X3_0
  | 1, _ => exact la_X3_1
  | 2, _ => exact la_X3_2
  | 3, _ => exact la_X3_3
  | 4, _ => exact la_X3_4
  | 5, _ => exact la_X3_5
  | n + 6, h => exact absurd h (by omega)
theorem la_X4_0 : u_lay RX4 TX4 0 ∈ wall := wl (pc2 _ (List.mem_of_getElem? (i := 13) (by decide +kernel))) rfl
theorem la_X4_1 : u_lay RX4 TX4 1 ∈ wall := wl (pc2 _ (List.mem_of_getElem? (i := 15) (by decide +kernel))) rfl
theorem la_X4_2 : u_lay RX4 TX4 2 ∈ wall := wl (pc2 _ (List.mem_of_getElem? (i := 17) (by decide +kernel))) rfl
theorem wx_X4 : ∀ w ∈ u_ws RX4 TX4 3, w ∈ wall := by
  intro w hw
  obtain ⟨k, hk, rfl⟩ := List.mem_map.mp hw
  have hk := List.mem_range.mp hk
  match k, hk with
  | 0, _ => exact la_X4_0
  | 1, _ => exact la_X4_1
  | 2, _ => exact la_X4_2
  | n + 3, h => exact absurd h (by omega)
theorem la_X5_0 : u_lay RX5 TX5 0 ∈ wall := wl (pc1 _ (List.mem_of_getElem? (i := 117) (by decide +kernel))) rfl
theorem la_X5_1 : u_lay RX5 TX5 1 ∈ wall := wl (pc1 _ (List.mem_of_getElem? (i := 119) (by decide +kernel))) rfl
theorem la_X5_2 : u_lay RX5 TX5 2 ∈ wall := wl (pc1 _ (List.mem_of_getElem? (i := 121) (by decide +kernel))) rfl
theorem wx_X5 : ∀ w ∈ u_ws RX5 TX5 3, w ∈ wall := by
  intro w hw
  obtain ⟨k, hk, rfl⟩ := List.mem_map.mp hw
  have hk := List.mem_range.mp hk
  match k, hk with
  | 0, _ => exact la_X5_0
  | 1, _ => exact la_X5_1
  | 2, _ => exact la_X5_2
  | n + 3, h => exact absurd h (by omega)
theorem la_X6_0 : u_lay RX6 TX6 0 ∈ wall := wl (pc2 _ (List.mem_of_getElem? (i := 31) (by decide +kernel))) rfl
theorem la_X6_1 : u_lay RX6 TX6 1 ∈ wall := wl (pc2 _ (List.mem_of_getElem? (i := 33) (by decide +kernel))) rfl
theorem la_X6_2 : u_lay RX6 TX6 2 ∈ wall := wl (pc2 _ (List.mem_of_getElem? (i := 35) (by decide +kernel))) rfl
theorem wx_X6 : ∀ w ∈ u_ws RX6 TX6 3, w ∈ wall := by
  intro w hw
  obtain ⟨k, hk, rfl⟩ := List.mem_map.mp hw
  have hk := List.mem_range.mp hk
  match k, hk with
  | 0, _ => exact la_X6_0
  | 1, _ => exact la_X6_1
  | 2, _ => exact la_X6_2
  | n + 3, h => exact absurd h (by omega)
theorem la_X7_0 : u_lay RX7 TX7 0 ∈ wall := wl (pc1 _ (List.mem_of_getElem? (i := 99) (by decide +kernel))) rfl
theorem la_X7_1 : u_lay RX7 TX7 1 ∈ wall := wl (pc1 _ (List.mem_of_getElem? (i := 101) (by decide +kernel))) rfl
theorem wx_X7 : ∀ w ∈ u_ws RX7 TX7 2, w ∈ wall := by
  intro w hw
  obtain ⟨k, hk, rfl⟩ := List.mem_map.mp hw
  have hk := List.mem_range.mp hk
  match k, hk with
  | 0, _ => exact la_X7_0
  | 1, _ => exact la_X7_1
  | n + 2, h => exact absurd h (by omega)
theorem la_X8_0 : u_lay RX8 TX8 0 ∈ wall := wl (pc1 _ (List.mem_of_getElem? (i := 84) (by decide +kernel))) rfl
theorem la_X8_1 : u_lay RX8 TX8 1 ∈ wall := wl (pc1 _ (List.mem_of_getElem? (i := 86) (by decide +kernel))) rfl
theorem wx_X8 : ∀ w ∈ u_ws RX8 TX8 2, w ∈ wall := by
  intro w hw
  obtain ⟨k, hk, rfl⟩ := List.mem_map.mp hw
  have hk := List.mem_range.mp hk
  match k, hk with
  | 0, _ => exact la_X8_0
  | 1, _ => exact la_X8_1
  | n + 2, h => exact absurd h (by omega)
theorem la_X9_0 : u_lay RX9 TX9 0 ∈ wall := wl (pc1 _ (List.mem_of_getElem? (i := 177) (by decide +kernel))) rfl
theorem la_X9_1 : u_lay RX9 TX9 1 ∈ wall := wl (pc1 _ (List.mem_of_getElem? (i := 179) (by decide +kernel))) rfl
theorem la_X9_2 : u_lay RX9 TX9 2 ∈ wall := wl (pc1 _ (List.mem_of_getElem? (i := 181) (by decide +kernel))) rfl
theorem la_X9_3 : u_lay RX9 TX9 3 ∈ wall := wl (pc1 _ (List.mem_of_getElem? (i := 183) (by decide +kernel))) rfl
theorem la_X9_4 : u_lay RX9 TX9 4 ∈ wall := wl (pc1 _ (List.mem_of_getElem? (i := 185) (by decide +kernel))) rfl
theorem la_X9_5 : u_lay RX9 TX9 5 ∈ wall := wl (pc1 _ (List.mem_of_getElem? (i := 187) (by decide +kernel))) rfl
theorem wx_X9 : ∀ w ∈ u_ws RX9 TX9 6, w ∈ wall := by
  intro w hw
  obtain ⟨k, hk, rfl⟩ := List.mem_map.mp hw
  have hk := List.mem_range.mp hk
  match k, hk with
  | 0, _ => exact la_X9_0
  | 1, _ => exact la_X9_1
  | 2, _ => exact la_X9_2
  | 3, _ => exact la_X9_3
  | 4, _ => exact la_X9_4
  | 5, _ => exact la_X9_5
  | n + 6, h => exact absurd h (by omega)
theorem la_X10_0 : u_lay RX10 TX10 0 ∈ wall := wl (pc2 _ (List.mem_of_getElem? (i := 77) (by decide +kernel))) rfl
theorem la_X10_1 : u_lay RX10 TX10 1 ∈ wall := wl (pc2 _ (List.mem_of_getElem? (i := 79) (by decide +kernel))) rfl
theorem la_X10_2 : u_lay RX10 TX10 2 ∈ wall := wl (pc2 _ (List.mem_of_getElem? (i := 81) (by decide +kernel))) rfl
theorem la_X10_3 : u_lay RX10 TX10 3 ∈ wall := wl (pc2 _ (List.mem_of_getElem? (i := 83) (by decide +kernel))) rfl
theorem la_X10_4 : u_lay RX10 TX10 4 ∈ wall := wl (pc2 _ (List.mem_of_getElem? (i := 85) (by decide +kernel))) rfl
theorem la_X10_5 : u_lay RX10 TX10 5 ∈ wall := wl (pc2 _ (List.mem_of_getElem? (i := 87) (by decide +kernel))) rfl
theorem la_X10_6 : u_lay RX10 TX10 6 ∈ wall := wl (pc2 _ (List.mem_of_getElem? (i := 89) (by decide +kernel))) rfl
theorem la_X10_7 : u_lay RX10 TX10 7 ∈ wall := wl (pc2 _ (List.mem_of_getElem? (i := 91) (by decide +kernel))) rfl
theorem la_X10_8 : u_lay RX10 TX10 8 ∈ wall := wl (pc2 _ (List.mem_of_getElem? (i := 93) (by decide +kernel))) rfl
theorem la_X10_9 : u_lay RX10 TX10 9 ∈ wall := wl (pc2 _ (List.mem_of_getElem? (i := 95) (by decide +kernel))) rfl
theorem la_X10_10 : u_lay RX10 TX10 10 ∈ wall := wl (pc2 _ (List.mem_of_getElem? (i := 97) (by decide +kernel))) rfl
theorem la_X10_11 : u_lay RX10 TX10 11 ∈ wall := wl (pc2 _ (List.mem_of_getElem? (i := 99) (by decide +kernel))) rfl
theorem la_X10_12 : u_lay RX10 TX10 12 ∈ wall := wl (pc2 _ (List.mem_of_getElem? (i := 101) (by decide +kernel))) rfl
theorem wx_X10 : ∀ w ∈ u_ws RX10 TX10 13, w ∈ wall := by
  intro w hw
  obtain ⟨k, hk, rfl⟩ := List.mem_map.mp hw
  have hk := List.mem_range.mp hk
  match k, hk with
  | 0, _ => exact la_X10_0
  | 1, _ => exact la_X10_1
  | 2, _ => exact la_X10_2
  | 3, _ => exact la_X10_3
  | 4, _ => exact la_X10_4
  | 5, _ => exact la_X10_5
  | 6, _ => exact la_X10_6
  | 7, _ => exact la_X10_7
  | 8, _ => exact la_X10_8
  | 9, _ => exact la_X10_9
  | 10, _ => exact la_X10_10
  | 11, _ => exact la_X10_11
  | 12, _ => exact la_X10_12
  | n + 13, h => exact absurd h (by omega)
theorem la_X11_0 : u_lay RX11 TX11 0 ∈ wall := wl (pc3 _ (List.mem_of_getElem? (i := 81) (by decide +kernel))) rfl
theorem la_X11_1 : u_lay RX11 TX11 1 ∈ wall := wl (pc3 _ (List.mem_of_getElem? (i := 83) (by decide +kernel))) rfl
theorem la_X11_2 : u_lay RX11 TX11 2 ∈ wall := wl (pc3 _ (List.mem_of_getElem? (i := 85) (by decide +kernel))) rfl
theorem la_X11_3 : u_lay RX11 TX11 3 ∈ wall := wl (pc3 _ (List.mem_of_getElem? (i := 87) (by decide +kernel))) rfl
theorem la_X11_4 : u_lay RX11 TX11 4 ∈ wall := wl (pc3 _ (List.mem_of_getElem? (i := 89) (by decide +kernel))) rfl
theorem la_X11_5 : u_lay RX11 TX11 5 ∈ wall := wl (pc3 _ (List.mem_of_getElem? (i := 91) (by decide +kernel))) rfl
theorem la_X11_6 : u_lay RX11 TX11 6 ∈ wall := wl (pc3 _ (List.mem_of_getElem? (i := 93) (by decide +kernel))) rfl
theorem la_X11_7 : u_lay RX11 TX11 7 ∈ wall := wl (pc3 _ (List.mem_of_getElem? (i := 95) (by decide +kernel))) rfl
theorem la_X11_8 : u_lay RX11 TX11 8 ∈ wall := wl (pc3 _ (List.mem_of_getElem? (i := 97) (by decide +kernel))) rfl
theorem wx_X11 : ∀ w ∈ u_ws RX11 TX11 9, w ∈ wall := by
  intro w hw
  obtain ⟨k, hk, rfl⟩ := List.mem_map.mp hw
  have hk := List.mem_range.mp hk
  match k, hk with
  | 0, _ => exact la_X11_0
  | 1, _ => exact la_X11_1
  | 2, _ => exact la_X11_2
  | 3, _ => exact la_X11_3
  | 4, _ => exact la_X11_4
  | 5, _ => exact la_X11_5
  | 6, _ => exact la_X11_6
  | 7, _ => exact la_X11_7
  | 8, _ => exact la_X11_8
  | n + 9, h => exact absurd h (by omega)
theorem la_X12_0 : u_lay RX12 TX12 0 ∈ wall := wl (pc1 _ (List.mem_of_getElem? (i := 49) (by decide +kernel))) rfl
theorem la_X12_1 : u_lay RX12 TX12 1 ∈ wall := wl (pc1 _ (List.mem_of_getElem? (i := 51) (by decide +kernel))) rfl
theorem la_X12_2 : u_lay RX12 TX12 2 ∈ wall := wl (pc1 _ (List.mem_of_getElem? (i := 53) (by decide +kernel))) rfl
theorem la_X12_3 : u_lay RX12 TX12 3 ∈ wall := wl (pc1 _ (List.mem_of_getElem? (i := 55) (by decide +kernel))) rfl
theorem la_X12_4 : u_lay RX12 TX12 4 ∈ wall := wl (pc1 _ (List.mem_of_getElem? (i := 57) (by decide +kernel))) rfl
theorem la_X12_5 : u_lay RX12 TX12 5 ∈ wall := wl (pc1 _ (List.mem_of_getElem? (i := 59) (by decide +kernel))) rfl
theorem wx_X12 : ∀ w ∈ u_ws RX12 TX12 6, w ∈ wall := by
  intro w hw
  obtain ⟨k, hk, rfl⟩ := List.mem_map.mp hw
  have hk := List.mem_range.mp hk
  match k, hk with
  | 0, _ => exact la_X12_0
  | 1, _ => exact la_X12_1
  | 2, _ => exact la_X12_2
  | 3, _ => exact la_X12_3
  | 4, _ => exact la_X12_4
  | 5, _ => exact la_X12_5
  | n + 6, h => exact absurd h (by omega)
theorem fg_J0_9 : FLk RJ0 9 0 0 := ⟨RJ0, TJ0, 4, rfl, by decide, wl (pc4 _ (List.mem_of_getElem? (i := 52) (by decide +kernel))) rfl, wx_J0⟩
theorem fg_J0_15 : FLk RJ0 15 0 1 := ⟨RJ0, TJ0, 4, rfl, by decide, wl (pc4 _ (List.mem_of_getElem? (i := 53) (by decide +kernel))) rfl, wx_J0⟩
theorem fg_J0_1048 : FLk RJ0 1048 1 2 := ⟨RJ4, TJ4, 4, rfl, by decide, wl (pc3 _ (List.mem_of_getElem? (i := 120) (by decide +kernel))) rfl, wx_J4⟩
theorem fk_J5_15 : FLk RJ5 15 1 0 := ⟨RJ4, TJ4, 4, rfl, by decide, wl (pc3 _ (List.mem_of_getElem? (i := 118) (by decide +kernel))) rfl, wx_J4⟩
theorem fw_J5_15 : FLw RJ5 15 1 0 (.array .byte) := ⟨RJ4, TJ4, 4, tyJ4, rfl, by decide, wl (pc3 _ (List.mem_of_getElem? (i := 118) (by decide +kernel))) rfl, wx_J4, tyJ4_ok, nmJ4, rfl, by decide +kernel⟩
theorem fk_J5_22 : FLk RJ5 22 1 1 := ⟨RJ4, TJ4, 4, rfl, by decide, wl (pc3 _ (List.mem_of_getElem? (i := 119) (by decide +kernel))) rfl, wx_J4⟩
theorem fw_J5_22 : FLw RJ5 22 1 1 (.byte) := ⟨RJ4, TJ4, 4, tyJ4, rfl, by decide, wl (pc3 _ (List.mem_of_getElem? (i := 119) (by decide +kernel))) rfl, wx_J4, tyJ4_ok, nmJ4, rfl, by decide +kernel⟩
theorem fk_J5_79 : FLk RJ5 79 1 3 := ⟨RJ4, TJ4, 4, rfl, by decide, wl (pc3 _ (List.mem_of_getElem? (i := 121) (by decide +kernel))) rfl, wx_J4⟩
theorem fw_J5_79 : FLw RJ5 79 1 3 (.int) := ⟨RJ4, TJ4, 4, tyJ4, rfl, by decide, wl (pc3 _ (List.mem_of_getElem? (i := 121) (by decide +kernel))) rfl, wx_J4, tyJ4_ok, nmJ4, rfl, by decide +kernel⟩
theorem fk_Jx4a65c_9 : FLk RJx4a65c 9 2 1 := ⟨RJx4a65c, TJx4a65c, 3, rfl, by decide, wl (pc5 _ (List.mem_of_getElem? (i := 176) (by decide +kernel))) rfl, wx_Jx4a65c⟩
theorem fw_Jx4a65c_9 : FLw RJx4a65c 9 2 1 (.array (.object "java/lang/Object")) := ⟨RJx4a65c, TJx4a65c, 3, tyJx4a65c, rfl, by decide, wl (pc5 _ (List.mem_of_getElem? (i := 176) (by decide +kernel))) rfl, wx_Jx4a65c, tyJx4a65c_ok, nmJx4a65c, rfl, by decide +kernel⟩
theorem fk_Jx4a65c_48 : FLk RJx4a65c 48 2 2 := ⟨RJx4a65c, TJx4a65c, 3, rfl, by decide, wl (pc5 _ (List.mem_of_getElem? (i := 177) (by decide +kernel))) rfl, wx_Jx4a65c⟩
theorem fw_Jx4a65c_48 : FLw RJx4a65c 48 2 2 (.int) := ⟨RJx4a65c, TJx4a65c, 3, tyJx4a65c, rfl, by decide, wl (pc5 _ (List.mem_of_getElem? (i := 177) (by decide +kernel))) rfl, wx_Jx4a65c, tyJx4a65c_ok, nmJx4a65c, rfl, by decide +kernel⟩
theorem fk_Jxc12de_7 : FLk RJxc12de 7 2 0 := ⟨RJx4a65c, TJx4a65c, 3, rfl, by decide, wl (pc5 _ (List.mem_of_getElem? (i := 178) (by decide +kernel))) rfl, wx_Jx4a65c⟩
theorem fw_Jxc12de_7 : FLw RJxc12de 7 2 0 (.int) := ⟨RJx4a65c, TJx4a65c, 3, tyJx4a65c, rfl, by decide, wl (pc5 _ (List.mem_of_getElem? (i := 178) (by decide +kernel))) rfl, wx_Jx4a65c, tyJx4a65c_ok, nmJx4a65c, rfl, by decide +kernel⟩
theorem fk_X0_9 : FLk RX0 9 10 1 := ⟨RX8, TX8, 2, rfl, by decide, wl (pc1 _ (List.mem_of_getElem? (i := 80) (by decide +kernel))) rfl, wx_X8⟩
theorem fk_X1_9 : FLk RX1 9 3 0 := ⟨RX1, TX1, 9, rfl, by decide, wl (pc1 _ (List.mem_of_getElem? (i := 196) (by decide +kernel))) rfl, wx_X1⟩
theorem fk_X1_15 : FLk RX1 15 3 1 := ⟨RX1, TX1, 9, rfl, by decide, wl (pc1 _ (List.mem_of_getElem? (i := 197) (by decide +kernel))) rfl, wx_X1⟩
theorem fw_X1_15 : FLw RX1 15 3 1 (.int) := ⟨RX1, TX1, 9, tyX1, rfl, by decide, wl (pc1 _ (List.mem_of_getElem? (i := 197) (by decide +kernel))) rfl, wx_X1, tyX1_ok, nmX1, rfl, by decide +kernel⟩
theorem fk_X1_19 : FLk RX1 19 3 2 := ⟨RX1, TX1, 9, rfl, by decide, wl (pc1 _ (List.mem_of_getElem? (i := 200) (by decide +kernel))) rfl, wx_X1⟩
theorem fw_X1_19 : FLw RX1 19 3 2 (.int) := ⟨RX1, TX1, 9, tyX1, rfl, by decide, wl (pc1 _ (List.mem_of_getElem? (i := 200) (by decide +kernel))) rfl, wx_X1, tyX1_ok, nmX1, rfl, by decide +kernel⟩
theorem fk_X1_22 : FLk RX1 22 3 3 := ⟨RX1, TX1, 9, rfl, by decide, wl (pc1 _ (List.mem_of_getElem? (i := 203) (by decide +kernel))) rfl, wx_X1⟩
theorem fw_X1_22 : FLw RX1 22 3 3 (.int) := ⟨RX1, TX1, 9, tyX1, rfl, by decide, wl (pc1 _ (List.mem_of_getElem? (i := 203) (by decide +kernel))) rfl, wx_X1, tyX1_ok, nmX1, rfl, by decide +kernel⟩
theorem fk_X1_25 : FLk RX1 25 3 4 := ⟨RX1, TX1, 9, rfl, by decide, wl (pc1 _ (List.mem_of_getElem? (i := 206) (by decide +kernel))) rfl, wx_X1⟩
theorem fw_X1_25 : FLw RX1 25 3 4 (.int) := ⟨RX1, TX1, 9, tyX1, rfl, by decide, wl (pc1 _ (List.mem_of_getElem? (i := 206) (by decide +kernel))) rfl, wx_X1, tyX1_ok, nmX1, rfl, by decide +kernel⟩
theorem fk_X1_28 : FLk RX1 28 3 5 := ⟨RX1, TX1, 9, rfl, by decide, wl (pc1 _ (List.mem_of_getElem? (i := 209) (by decide +kernel))) rfl, wx_X1⟩
theorem fw_X1_28 : FLw RX1 28 3 5 (.int) := ⟨RX1, TX1, 9, tyX1, rfl, by decide, wl (pc1 _ (List.mem_of_getElem? (i := 209) (by decide +kernel))) rfl, wx_X1, tyX1_ok, nmX1, rfl, by decide +kernel⟩
theorem fk_X1_31 : FLk RX1 31 3 6 := ⟨RX1, TX1, 9, rfl, by decide, wl (pc1 _ (List.mem_of_getElem? (i := 212) (by decide +kernel))) rfl, wx_X1⟩
theorem fw_X1_31 : FLw RX1 31 3 6 (.int) := ⟨RX1, TX1, 9, tyX1, rfl, by decide, wl (pc1 _ (List.mem_of_getElem? (i := 212) (by decide +kernel))) rfl, wx_X1, tyX1_ok, nmX1, rfl, by decide +kernel⟩
theorem fk_X1_34 : FLk RX1 34 3 7 := ⟨RX1, TX1, 9, rfl, by decide, wl (pc1 _ (List.mem_of_getElem? (i := 215) (by decide +kernel))) rfl, wx_X1⟩
theorem fw_X1_34 : FLw RX1 34 3 7 (.int) := ⟨RX1, TX1, 9, tyX1, rfl, by decide, wl (pc1 _ (List.mem_of_getElem? (i := 215) (by decide +kernel))) rfl, wx_X1, tyX1_ok, nmX1, rfl, by decide +kernel⟩
theorem fk_X1_37 : FLk RX1 37 3 8 := ⟨RX1, TX1, 9, rfl, by decide, wl (pc1 _ (List.mem_of_getElem? (i := 218) (by decide +kernel))) rfl, wx_X1⟩
theorem fw_X1_37 : FLw RX1 37 3 8 (.int) := ⟨RX1, TX1, 9, tyX1, rfl, by decide, wl (pc1 _ (List.mem_of_getElem? (i := 218) (by decide +kernel))) rfl, wx_X1, tyX1_ok, nmX1, rfl, by decide +kernel⟩
theorem fk_X10_10 : FLk RX10 10 12 0 := ⟨RX10, TX10, 13, rfl, by decide, wl (pc2 _ (List.mem_of_getElem? (i := 64) (by decide +kernel))) rfl, wx_X10⟩
theorem fk_X10_19 : FLk RX10 19 12 1 := ⟨RX10, TX10, 13, rfl, by decide, wl (pc2 _ (List.mem_of_getElem? (i := 65) (by decide +kernel))) rfl, wx_X10⟩
theorem fk_X10_34 : FLk RX10 34 12 2 := ⟨RX10, TX10, 13, rfl, by decide, wl (pc2 _ (List.mem_of_getElem? (i := 66) (by decide +kernel))) rfl, wx_X10⟩
theorem fk_X10_38 : FLk RX10 38 11 0 := ⟨RX9, TX9, 6, rfl, by decide, wl (pc1 _ (List.mem_of_getElem? (i := 166) (by decide +kernel))) rfl, wx_X9⟩
theorem fk_X10_42 : FLk RX10 42 11 1 := ⟨RX9, TX9, 6, rfl, by decide, wl (pc1 _ (List.mem_of_getElem? (i := 168) (by decide +kernel))) rfl, wx_X9⟩
theorem fk_X10_45 : FLk RX10 45 11 2 := ⟨RX9, TX9, 6, rfl, by decide, wl (pc1 _ (List.mem_of_getElem? (i := 170) (by decide +kernel))) rfl, wx_X9⟩
theorem fw_X10_45 : FLw RX10 45 11 2 (.object "MustNotStop$Law") := ⟨RX9, TX9, 6, tyX9, rfl, by decide, wl (pc1 _ (List.mem_of_getElem? (i := 170) (by decide +kernel))) rfl, wx_X9, tyX9_ok, nmX9, rfl, by decide +kernel⟩
theorem fk_X10_49 : FLk RX10 49 12 3 := ⟨RX10, TX10, 13, rfl, by decide, wl (pc2 _ (List.mem_of_getElem? (i := 67) (by decide +kernel))) rfl, wx_X10⟩
theorem fk_X10_52 : FLk RX10 52 12 4 := ⟨RX10, TX10, 13, rfl, by decide, wl (pc2 _ (List.mem_of_getElem? (i := 68) (by decide +kernel))) rfl, wx_X10⟩
theorem fw_X10_52 : FLw RX10 52 12 4 (.object "MustNotStop$Law") := ⟨RX10, TX10, 13, tyX10, rfl, by decide, wl (pc2 _ (List.mem_of_getElem? (i := 68) (by decide +kernel))) rfl, wx_X10, tyX10_ok, nmX10, rfl, by decide +kernel⟩
theorem fk_X10_58 : FLk RX10 58 12 5 := ⟨RX10, TX10, 13, rfl, by decide, wl (pc2 _ (List.mem_of_getElem? (i := 69) (by decide +kernel))) rfl, wx_X10⟩
theorem fk_X10_62 : FLk RX10 62 12 6 := ⟨RX10, TX10, 13, rfl, by decide, wl (pc2 _ (List.mem_of_getElem? (i := 70) (by decide +kernel))) rfl, wx_X10⟩
theorem fk_X10_65 : FLk RX10 65 12 7 := ⟨RX10, TX10, 13, rfl, by decide, wl (pc2 _ (List.mem_of_getElem? (i := 71) (by decide +kernel))) rfl, wx_X10⟩
theorem fk_X10_71 : FLk RX10 71 12 8 := ⟨RX10, TX10, 13, rfl, by decide, wl (pc2 _ (List.mem_of_getElem? (i := 72) (by decide +kernel))) rfl, wx_X10⟩
theorem fk_X10_75 : FLk RX10 75 12 9 := ⟨RX10, TX10, 13, rfl, by decide, wl (pc2 _ (List.mem_of_getElem? (i := 73) (by decide +kernel))) rfl, wx_X10⟩
theorem fk_X10_79 : FLk RX10 79 12 10 := ⟨RX10, TX10, 13, rfl, by decide, wl (pc2 _ (List.mem_of_getElem? (i := 74) (by decide +kernel))) rfl, wx_X10⟩
theorem fw_X10_79 : FLw RX10 79 12 10 (.int) := ⟨RX10, TX10, 13, tyX10, rfl, by decide, wl (pc2 _ (List.mem_of_getElem? (i := 74) (by decide +kernel))) rfl, wx_X10, tyX10_ok, nmX10, rfl, by decide +kernel⟩
theorem fk_X10_86 : FLk RX10 86 12 11 := ⟨RX10, TX10, 13, rfl, by decide, wl (pc2 _ (List.mem_of_getElem? (i := 75) (by decide +kernel))) rfl, wx_X10⟩
theorem fk_X10_93 : FLk RX10 93 12 12 := ⟨RX10, TX10, 13, rfl, by decide, wl (pc2 _ (List.mem_of_getElem? (i := 76) (by decide +kernel))) rfl, wx_X10⟩
theorem fk_X10_97 : FLk RX10 97 10 1 := ⟨RX8, TX8, 2, rfl, by decide, wl (pc1 _ (List.mem_of_getElem? (i := 81) (by decide +kernel))) rfl, wx_X8⟩
theorem fw_X10_97 : FLw RX10 97 10 1 (.int) := ⟨RX8, TX8, 2, tyX8, rfl, by decide, wl (pc1 _ (List.mem_of_getElem? (i := 81) (by decide +kernel))) rfl, wx_X8, tyX8_ok, nmX8, rfl, by decide +kernel⟩
theorem fk_X10_145 : FLk RX10 145 3 8 := ⟨RX1, TX1, 9, rfl, by decide, wl (pc1 _ (List.mem_of_getElem? (i := 220) (by decide +kernel))) rfl, wx_X1⟩
theorem fk_X10_148 : FLk RX10 148 3 1 := ⟨RX1, TX1, 9, rfl, by decide, wl (pc1 _ (List.mem_of_getElem? (i := 199) (by decide +kernel))) rfl, wx_X1⟩
theorem fw_X10_148 : FLw RX10 148 3 1 (.int) := ⟨RX1, TX1, 9, tyX1, rfl, by decide, wl (pc1 _ (List.mem_of_getElem? (i := 199) (by decide +kernel))) rfl, wx_X1, tyX1_ok, nmX1, rfl, by decide +kernel⟩
theorem fk_X10_151 : FLk RX10 151 11 3 := ⟨RX9, TX9, 6, rfl, by decide, wl (pc1 _ (List.mem_of_getElem? (i := 172) (by decide +kernel))) rfl, wx_X9⟩
theorem fw_X10_151 : FLw RX10 151 11 3 (.int) := ⟨RX9, TX9, 6, tyX9, rfl, by decide, wl (pc1 _ (List.mem_of_getElem? (i := 172) (by decide +kernel))) rfl, wx_X9, tyX9_ok, nmX9, rfl, by decide +kernel⟩
theorem fk_X10_154 : FLk RX10 154 11 4 := ⟨RX9, TX9, 6, rfl, by decide, wl (pc1 _ (List.mem_of_getElem? (i := 174) (by decide +kernel))) rfl, wx_X9⟩
theorem fw_X10_154 : FLw RX10 154 11 4 (.int) := ⟨RX9, TX9, 6, tyX9, rfl, by decide, wl (pc1 _ (List.mem_of_getElem? (i := 174) (by decide +kernel))) rfl, wx_X9, tyX9_ok, nmX9, rfl, by decide +kernel⟩
theorem fk_X10_157 : FLk RX10 157 11 5 := ⟨RX9, TX9, 6, rfl, by decide, wl (pc1 _ (List.mem_of_getElem? (i := 176) (by decide +kernel))) rfl, wx_X9⟩
theorem fw_X10_157 : FLw RX10 157 11 5 (.int) := ⟨RX9, TX9, 6, tyX9, rfl, by decide, wl (pc1 _ (List.mem_of_getElem? (i := 176) (by decide +kernel))) rfl, wx_X9, tyX9_ok, nmX9, rfl, by decide +kernel⟩
theorem fk_X10_199 : FLk RX10 199 3 6 := ⟨RX1, TX1, 9, rfl, by decide, wl (pc1 _ (List.mem_of_getElem? (i := 214) (by decide +kernel))) rfl, wx_X1⟩
theorem fk_X10_233 : FLk RX10 233 3 2 := ⟨RX1, TX1, 9, rfl, by decide, wl (pc1 _ (List.mem_of_getElem? (i := 202) (by decide +kernel))) rfl, wx_X1⟩
theorem fw_X10_233 : FLw RX10 233 3 2 (.int) := ⟨RX1, TX1, 9, tyX1, rfl, by decide, wl (pc1 _ (List.mem_of_getElem? (i := 202) (by decide +kernel))) rfl, wx_X1, tyX1_ok, nmX1, rfl, by decide +kernel⟩
theorem fk_X10_236 : FLk RX10 236 3 4 := ⟨RX1, TX1, 9, rfl, by decide, wl (pc1 _ (List.mem_of_getElem? (i := 208) (by decide +kernel))) rfl, wx_X1⟩
theorem fk_X10_250 : FLk RX10 250 3 7 := ⟨RX1, TX1, 9, rfl, by decide, wl (pc1 _ (List.mem_of_getElem? (i := 217) (by decide +kernel))) rfl, wx_X1⟩
theorem fk_X10_260 : FLk RX10 260 3 5 := ⟨RX1, TX1, 9, rfl, by decide, wl (pc1 _ (List.mem_of_getElem? (i := 211) (by decide +kernel))) rfl, wx_X1⟩
theorem fk_X10_301 : FLk RX10 301 7 2 := ⟨RX5, TX5, 3, rfl, by decide, wl (pc1 _ (List.mem_of_getElem? (i := 116) (by decide +kernel))) rfl, wx_X5⟩
theorem fk_X10_312 : FLk RX10 312 5 3 := ⟨RX3, TX3, 6, rfl, by decide, wl (pc2 _ (List.mem_of_getElem? (i := 48) (by decide +kernel))) rfl, wx_X3⟩
theorem fk_X10_357 : FLk RX10 357 3 3 := ⟨RX1, TX1, 9, rfl, by decide, wl (pc1 _ (List.mem_of_getElem? (i := 205) (by decide +kernel))) rfl, wx_X1⟩
theorem fk_X10_363 : FLk RX10 363 6 2 := ⟨RX4, TX4, 3, rfl, by decide, wl (pc2 _ (List.mem_of_getElem? (i := 12) (by decide +kernel))) rfl, wx_X4⟩
theorem fk_X10_364 : FLk RX10 364 9 1 := ⟨RX7, TX7, 2, rfl, by decide, wl (pc1 _ (List.mem_of_getElem? (i := 98) (by decide +kernel))) rfl, wx_X7⟩
theorem fk_X11_7 : FLk RX11 7 13 2 := ⟨RX11, TX11, 9, rfl, by decide, wl (pc3 _ (List.mem_of_getElem? (i := 67) (by decide +kernel))) rfl, wx_X11⟩
theorem fw_X11_7 : FLw RX11 7 13 2 (.int) := ⟨RX11, TX11, 9, tyX11, rfl, by decide, wl (pc3 _ (List.mem_of_getElem? (i := 67) (by decide +kernel))) rfl, wx_X11, tyX11_ok, nmX11, rfl, by decide +kernel⟩
theorem fk_X11_14 : FLk RX11 14 13 0 := ⟨RX11, TX11, 9, rfl, by decide, wl (pc3 _ (List.mem_of_getElem? (i := 63) (by decide +kernel))) rfl, wx_X11⟩
theorem fw_X11_14 : FLw RX11 14 13 0 (.array .int) := ⟨RX11, TX11, 9, tyX11, rfl, by decide, wl (pc3 _ (List.mem_of_getElem? (i := 63) (by decide +kernel))) rfl, wx_X11, tyX11_ok, nmX11, rfl, by decide +kernel⟩
theorem fk_X11_23 : FLk RX11 23 13 1 := ⟨RX11, TX11, 9, rfl, by decide, wl (pc3 _ (List.mem_of_getElem? (i := 65) (by decide +kernel))) rfl, wx_X11⟩
theorem fw_X11_23 : FLw RX11 23 13 1 (.array .boolean) := ⟨RX11, TX11, 9, tyX11, rfl, by decide, wl (pc3 _ (List.mem_of_getElem? (i := 65) (by decide +kernel))) rfl, wx_X11, tyX11_ok, nmX11, rfl, by decide +kernel⟩
theorem fk_X11_29 : FLk RX11 29 13 3 := ⟨RX11, TX11, 9, rfl, by decide, wl (pc3 _ (List.mem_of_getElem? (i := 69) (by decide +kernel))) rfl, wx_X11⟩
theorem fw_X11_29 : FLw RX11 29 13 3 (.int) := ⟨RX11, TX11, 9, tyX11, rfl, by decide, wl (pc3 _ (List.mem_of_getElem? (i := 69) (by decide +kernel))) rfl, wx_X11, tyX11_ok, nmX11, rfl, by decide +kernel⟩
theorem fk_X11_32 : FLk RX11 32 13 4 := ⟨RX11, TX11, 9, rfl, by decide, wl (pc3 _ (List.mem_of_getElem? (i := 71) (by decide +kernel))) rfl, wx_X11⟩
theorem fw_X11_32 : FLw RX11 32 13 4 (.int) := ⟨RX11, TX11, 9, tyX11, rfl, by decide, wl (pc3 _ (List.mem_of_getElem? (i := 71) (by decide +kernel))) rfl, wx_X11, tyX11_ok, nmX11, rfl, by decide +kernel⟩
theorem fk_X11_35 : FLk RX11 35 13 5 := ⟨RX11, TX11, 9, rfl, by decide, wl (pc3 _ (List.mem_of_getElem? (i := 73) (by decide +kernel))) rfl, wx_X11⟩
theorem fw_X11_35 : FLw RX11 35 13 5 (.int) := ⟨RX11, TX11, 9, tyX11, rfl, by decide, wl (pc3 _ (List.mem_of_getElem? (i := 73) (by decide +kernel))) rfl, wx_X11, tyX11_ok, nmX11, rfl, by decide +kernel⟩
theorem fk_X11_38 : FLk RX11 38 13 6 := ⟨RX11, TX11, 9, rfl, by decide, wl (pc3 _ (List.mem_of_getElem? (i := 75) (by decide +kernel))) rfl, wx_X11⟩
theorem fw_X11_38 : FLw RX11 38 13 6 (.int) := ⟨RX11, TX11, 9, tyX11, rfl, by decide, wl (pc3 _ (List.mem_of_getElem? (i := 75) (by decide +kernel))) rfl, wx_X11, tyX11_ok, nmX11, rfl, by decide +kernel⟩
theorem fk_X11_41 : FLk RX11 41 13 7 := ⟨RX11, TX11, 9, rfl, by decide, wl (pc3 _ (List.mem_of_getElem? (i := 77) (by decide +kernel))) rfl, wx_X11⟩
theorem fw_X11_41 : FLw RX11 41 13 7 (.int) := ⟨RX11, TX11, 9, tyX11, rfl, by decide, wl (pc3 _ (List.mem_of_getElem? (i := 77) (by decide +kernel))) rfl, wx_X11, tyX11_ok, nmX11, rfl, by decide +kernel⟩
theorem fk_X11_44 : FLk RX11 44 13 8 := ⟨RX11, TX11, 9, rfl, by decide, wl (pc3 _ (List.mem_of_getElem? (i := 79) (by decide +kernel))) rfl, wx_X11⟩
theorem fw_X11_44 : FLw RX11 44 13 8 (.array .boolean) := ⟨RX11, TX11, 9, tyX11, rfl, by decide, wl (pc3 _ (List.mem_of_getElem? (i := 79) (by decide +kernel))) rfl, wx_X11, tyX11_ok, nmX11, rfl, by decide +kernel⟩
theorem fk_X12_55 : FLk RX12 55 13 3 := ⟨RX11, TX11, 9, rfl, by decide, wl (pc3 _ (List.mem_of_getElem? (i := 70) (by decide +kernel))) rfl, wx_X11⟩
theorem fw_X12_55 : FLw RX12 55 13 3 (.int) := ⟨RX11, TX11, 9, tyX11, rfl, by decide, wl (pc3 _ (List.mem_of_getElem? (i := 70) (by decide +kernel))) rfl, wx_X11, tyX11_ok, nmX11, rfl, by decide +kernel⟩
theorem fk_X12_61 : FLk RX12 61 14 5 := ⟨RX12, TX12, 6, rfl, by decide, wl (pc1 _ (List.mem_of_getElem? (i := 48) (by decide +kernel))) rfl, wx_X12⟩
theorem fw_X12_61 : FLw RX12 61 14 5 (.int) := ⟨RX12, TX12, 6, tyX12, rfl, by decide, wl (pc1 _ (List.mem_of_getElem? (i := 48) (by decide +kernel))) rfl, wx_X12, tyX12_ok, nmX12, rfl, by decide +kernel⟩
theorem fk_X12_64 : FLk RX12 64 14 2 := ⟨RX12, TX12, 6, rfl, by decide, wl (pc1 _ (List.mem_of_getElem? (i := 45) (by decide +kernel))) rfl, wx_X12⟩
theorem fw_X12_64 : FLw RX12 64 14 2 (.int) := ⟨RX12, TX12, 6, tyX12, rfl, by decide, wl (pc1 _ (List.mem_of_getElem? (i := 45) (by decide +kernel))) rfl, wx_X12, tyX12_ok, nmX12, rfl, by decide +kernel⟩
theorem fk_X12_67 : FLk RX12 67 14 3 := ⟨RX12, TX12, 6, rfl, by decide, wl (pc1 _ (List.mem_of_getElem? (i := 46) (by decide +kernel))) rfl, wx_X12⟩
theorem fw_X12_67 : FLw RX12 67 14 3 (.int) := ⟨RX12, TX12, 6, tyX12, rfl, by decide, wl (pc1 _ (List.mem_of_getElem? (i := 46) (by decide +kernel))) rfl, wx_X12, tyX12_ok, nmX12, rfl, by decide +kernel⟩
theorem fk_X12_70 : FLk RX12 70 13 2 := ⟨RX11, TX11, 9, rfl, by decide, wl (pc3 _ (List.mem_of_getElem? (i := 68) (by decide +kernel))) rfl, wx_X11⟩
theorem fw_X12_70 : FLw RX12 70 13 2 (.int) := ⟨RX11, TX11, 9, tyX11, rfl, by decide, wl (pc3 _ (List.mem_of_getElem? (i := 68) (by decide +kernel))) rfl, wx_X11, tyX11_ok, nmX11, rfl, by decide +kernel⟩
theorem fk_X12_73 : FLk RX12 73 14 0 := ⟨RX12, TX12, 6, rfl, by decide, wl (pc1 _ (List.mem_of_getElem? (i := 43) (by decide +kernel))) rfl, wx_X12⟩
theorem fw_X12_73 : FLw RX12 73 14 0 (.array (.array .int)) := ⟨RX12, TX12, 6, tyX12, rfl, by decide, wl (pc1 _ (List.mem_of_getElem? (i := 43) (by decide +kernel))) rfl, wx_X12, tyX12_ok, nmX12, rfl, by decide +kernel⟩
theorem fk_X12_77 : FLk RX12 77 13 1 := ⟨RX11, TX11, 9, rfl, by decide, wl (pc3 _ (List.mem_of_getElem? (i := 66) (by decide +kernel))) rfl, wx_X11⟩
theorem fw_X12_77 : FLw RX12 77 13 1 (.array .boolean) := ⟨RX11, TX11, 9, tyX11, rfl, by decide, wl (pc3 _ (List.mem_of_getElem? (i := 66) (by decide +kernel))) rfl, wx_X11, tyX11_ok, nmX11, rfl, by decide +kernel⟩
theorem fk_X12_81 : FLk RX12 81 13 0 := ⟨RX11, TX11, 9, rfl, by decide, wl (pc3 _ (List.mem_of_getElem? (i := 64) (by decide +kernel))) rfl, wx_X11⟩
theorem fw_X12_81 : FLw RX12 81 13 0 (.array .int) := ⟨RX11, TX11, 9, tyX11, rfl, by decide, wl (pc3 _ (List.mem_of_getElem? (i := 64) (by decide +kernel))) rfl, wx_X11, tyX11_ok, nmX11, rfl, by decide +kernel⟩
theorem fk_X12_93 : FLk RX12 93 13 5 := ⟨RX11, TX11, 9, rfl, by decide, wl (pc3 _ (List.mem_of_getElem? (i := 74) (by decide +kernel))) rfl, wx_X11⟩
theorem fw_X12_93 : FLw RX12 93 13 5 (.int) := ⟨RX11, TX11, 9, tyX11, rfl, by decide, wl (pc3 _ (List.mem_of_getElem? (i := 74) (by decide +kernel))) rfl, wx_X11, tyX11_ok, nmX11, rfl, by decide +kernel⟩
theorem fk_X12_96 : FLk RX12 96 13 4 := ⟨RX11, TX11, 9, rfl, by decide, wl (pc3 _ (List.mem_of_getElem? (i := 72) (by decide +kernel))) rfl, wx_X11⟩
theorem fw_X12_96 : FLw RX12 96 13 4 (.int) := ⟨RX11, TX11, 9, tyX11, rfl, by decide, wl (pc3 _ (List.mem_of_getElem? (i := 72) (by decide +kernel))) rfl, wx_X11, tyX11_ok, nmX11, rfl, by decide +kernel⟩
theorem fk_X12_99 : FLk RX12 99 14 4 := ⟨RX12, TX12, 6, rfl, by decide, wl (pc1 _ (List.mem_of_getElem? (i := 47) (by decide +kernel))) rfl, wx_X12⟩
theorem fw_X12_99 : FLw RX12 99 14 4 (.int) := ⟨RX12, TX12, 6, tyX12, rfl, by decide, wl (pc1 _ (List.mem_of_getElem? (i := 47) (by decide +kernel))) rfl, wx_X12, tyX12_ok, nmX12, rfl, by decide +kernel⟩
theorem fk_X12_102 : FLk RX12 102 13 6 := ⟨RX11, TX11, 9, rfl, by decide, wl (pc3 _ (List.mem_of_getElem? (i := 76) (by decide +kernel))) rfl, wx_X11⟩
theorem fw_X12_102 : FLw RX12 102 13 6 (.int) := ⟨RX11, TX11, 9, tyX11, rfl, by decide, wl (pc3 _ (List.mem_of_getElem? (i := 76) (by decide +kernel))) rfl, wx_X11, tyX11_ok, nmX11, rfl, by decide +kernel⟩
theorem fk_X12_105 : FLk RX12 105 13 7 := ⟨RX11, TX11, 9, rfl, by decide, wl (pc3 _ (List.mem_of_getElem? (i := 78) (by decide +kernel))) rfl, wx_X11⟩
theorem fw_X12_105 : FLw RX12 105 13 7 (.int) := ⟨RX11, TX11, 9, tyX11, rfl, by decide, wl (pc3 _ (List.mem_of_getElem? (i := 78) (by decide +kernel))) rfl, wx_X11, tyX11_ok, nmX11, rfl, by decide +kernel⟩
theorem fk_X12_116 : FLk RX12 116 13 8 := ⟨RX11, TX11, 9, rfl, by decide, wl (pc3 _ (List.mem_of_getElem? (i := 80) (by decide +kernel))) rfl, wx_X11⟩
theorem fw_X12_116 : FLw RX12 116 13 8 (.array .boolean) := ⟨RX11, TX11, 9, tyX11, rfl, by decide, wl (pc3 _ (List.mem_of_getElem? (i := 80) (by decide +kernel))) rfl, wx_X11, tyX11_ok, nmX11, rfl, by decide +kernel⟩
theorem fk_X12_124 : FLk RX12 124 14 1 := ⟨RX12, TX12, 6, rfl, by decide, wl (pc1 _ (List.mem_of_getElem? (i := 44) (by decide +kernel))) rfl, wx_X12⟩
theorem fw_X12_124 : FLw RX12 124 14 1 (.array (.array .int)) := ⟨RX12, TX12, 6, tyX12, rfl, by decide, wl (pc1 _ (List.mem_of_getElem? (i := 44) (by decide +kernel))) rfl, wx_X12, tyX12_ok, nmX12, rfl, by decide +kernel⟩
theorem fk_X2_9 : FLk RX2 9 4 0 := ⟨RX2, TX2, 10, rfl, by decide, wl (pc1 _ (List.mem_of_getElem? (i := 130) (by decide +kernel))) rfl, wx_X2⟩
theorem fk_X2_15 : FLk RX2 15 4 1 := ⟨RX2, TX2, 10, rfl, by decide, wl (pc1 _ (List.mem_of_getElem? (i := 131) (by decide +kernel))) rfl, wx_X2⟩
theorem fw_X2_15 : FLw RX2 15 4 1 (.int) := ⟨RX2, TX2, 10, tyX2, rfl, by decide, wl (pc1 _ (List.mem_of_getElem? (i := 131) (by decide +kernel))) rfl, wx_X2, tyX2_ok, nmX2, rfl, by decide +kernel⟩
theorem fk_X2_19 : FLk RX2 19 4 2 := ⟨RX2, TX2, 10, rfl, by decide, wl (pc1 _ (List.mem_of_getElem? (i := 132) (by decide +kernel))) rfl, wx_X2⟩
theorem fk_X2_22 : FLk RX2 22 4 3 := ⟨RX2, TX2, 10, rfl, by decide, wl (pc1 _ (List.mem_of_getElem? (i := 133) (by decide +kernel))) rfl, wx_X2⟩
theorem fk_X2_25 : FLk RX2 25 4 4 := ⟨RX2, TX2, 10, rfl, by decide, wl (pc1 _ (List.mem_of_getElem? (i := 134) (by decide +kernel))) rfl, wx_X2⟩
theorem fk_X2_28 : FLk RX2 28 4 5 := ⟨RX2, TX2, 10, rfl, by decide, wl (pc1 _ (List.mem_of_getElem? (i := 135) (by decide +kernel))) rfl, wx_X2⟩
theorem fw_X2_28 : FLw RX2 28 4 5 (.int) := ⟨RX2, TX2, 10, tyX2, rfl, by decide, wl (pc1 _ (List.mem_of_getElem? (i := 135) (by decide +kernel))) rfl, wx_X2, tyX2_ok, nmX2, rfl, by decide +kernel⟩
theorem fk_X2_31 : FLk RX2 31 4 6 := ⟨RX2, TX2, 10, rfl, by decide, wl (pc1 _ (List.mem_of_getElem? (i := 136) (by decide +kernel))) rfl, wx_X2⟩
theorem fw_X2_31 : FLw RX2 31 4 6 (.int) := ⟨RX2, TX2, 10, tyX2, rfl, by decide, wl (pc1 _ (List.mem_of_getElem? (i := 136) (by decide +kernel))) rfl, wx_X2, tyX2_ok, nmX2, rfl, by decide +kernel⟩
theorem fk_X2_34 : FLk RX2 34 4 7 := ⟨RX2, TX2, 10, rfl, by decide, wl (pc1 _ (List.mem_of_getElem? (i := 137) (by decide +kernel))) rfl, wx_X2⟩
theorem fw_X2_34 : FLw RX2 34 4 7 (.int) := ⟨RX2, TX2, 10, tyX2, rfl, by decide, wl (pc1 _ (List.mem_of_getElem? (i := 137) (by decide +kernel))) rfl, wx_X2, tyX2_ok, nmX2, rfl, by decide +kernel⟩
theorem fk_X2_37 : FLk RX2 37 4 8 := ⟨RX2, TX2, 10, rfl, by decide, wl (pc1 _ (List.mem_of_getElem? (i := 138) (by decide +kernel))) rfl, wx_X2⟩
theorem fw_X2_37 : FLw RX2 37 4 8 (.int) := ⟨RX2, TX2, 10, tyX2, rfl, by decide, wl (pc1 _ (List.mem_of_getElem? (i := 138) (by decide +kernel))) rfl, wx_X2, tyX2_ok, nmX2, rfl, by decide +kernel⟩
theorem fk_X2_40 : FLk RX2 40 4 9 := ⟨RX2, TX2, 10, rfl, by decide, wl (pc1 _ (List.mem_of_getElem? (i := 139) (by decide +kernel))) rfl, wx_X2⟩
theorem fw_X2_40 : FLw RX2 40 4 9 (.boolean) := ⟨RX2, TX2, 10, tyX2, rfl, by decide, wl (pc1 _ (List.mem_of_getElem? (i := 139) (by decide +kernel))) rfl, wx_X2, tyX2_ok, nmX2, rfl, by decide +kernel⟩
theorem fk_X2_44 : FLk RX2 44 10 1 := ⟨RX8, TX8, 2, rfl, by decide, wl (pc1 _ (List.mem_of_getElem? (i := 82) (by decide +kernel))) rfl, wx_X8⟩
theorem fk_X3_11 : FLk RX3 11 5 0 := ⟨RX3, TX3, 6, rfl, by decide, wl (pc2 _ (List.mem_of_getElem? (i := 44) (by decide +kernel))) rfl, wx_X3⟩
theorem fk_X3_15 : FLk RX3 15 5 1 := ⟨RX3, TX3, 6, rfl, by decide, wl (pc2 _ (List.mem_of_getElem? (i := 45) (by decide +kernel))) rfl, wx_X3⟩
theorem fk_X3_18 : FLk RX3 18 5 2 := ⟨RX3, TX3, 6, rfl, by decide, wl (pc2 _ (List.mem_of_getElem? (i := 46) (by decide +kernel))) rfl, wx_X3⟩
theorem fk_X3_21 : FLk RX3 21 5 3 := ⟨RX3, TX3, 6, rfl, by decide, wl (pc2 _ (List.mem_of_getElem? (i := 47) (by decide +kernel))) rfl, wx_X3⟩
theorem fw_X3_21 : FLw RX3 21 5 3 (.int) := ⟨RX3, TX3, 6, tyX3, rfl, by decide, wl (pc2 _ (List.mem_of_getElem? (i := 47) (by decide +kernel))) rfl, wx_X3, tyX3_ok, nmX3, rfl, by decide +kernel⟩
theorem fk_X3_25 : FLk RX3 25 5 4 := ⟨RX3, TX3, 6, rfl, by decide, wl (pc2 _ (List.mem_of_getElem? (i := 49) (by decide +kernel))) rfl, wx_X3⟩
theorem fk_X3_28 : FLk RX3 28 5 5 := ⟨RX3, TX3, 6, rfl, by decide, wl (pc2 _ (List.mem_of_getElem? (i := 50) (by decide +kernel))) rfl, wx_X3⟩
theorem fk_X4_13 : FLk RX4 13 6 0 := ⟨RX4, TX4, 3, rfl, by decide, wl (pc2 _ (List.mem_of_getElem? (i := 9) (by decide +kernel))) rfl, wx_X4⟩
theorem fk_X4_17 : FLk RX4 17 6 1 := ⟨RX4, TX4, 3, rfl, by decide, wl (pc2 _ (List.mem_of_getElem? (i := 10) (by decide +kernel))) rfl, wx_X4⟩
theorem fw_X4_17 : FLw RX4 17 6 1 (.int) := ⟨RX4, TX4, 3, tyX4, rfl, by decide, wl (pc2 _ (List.mem_of_getElem? (i := 10) (by decide +kernel))) rfl, wx_X4, tyX4_ok, nmX4, rfl, by decide +kernel⟩
theorem fk_X4_21 : FLk RX4 21 6 2 := ⟨RX4, TX4, 3, rfl, by decide, wl (pc2 _ (List.mem_of_getElem? (i := 11) (by decide +kernel))) rfl, wx_X4⟩
theorem fw_X4_21 : FLw RX4 21 6 2 (.int) := ⟨RX4, TX4, 3, tyX4, rfl, by decide, wl (pc2 _ (List.mem_of_getElem? (i := 11) (by decide +kernel))) rfl, wx_X4, tyX4_ok, nmX4, rfl, by decide +kernel⟩
theorem fk_X5_9 : FLk RX5 9 7 0 := ⟨RX5, TX5, 3, rfl, by decide, wl (pc1 _ (List.mem_of_getElem? (i := 113) (by decide +kernel))) rfl, wx_X5⟩
theorem fk_X5_15 : FLk RX5 15 7 1 := ⟨RX5, TX5, 3, rfl, by decide, wl (pc1 _ (List.mem_of_getElem? (i := 114) (by decide +kernel))) rfl, wx_X5⟩
theorem fk_X5_18 : FLk RX5 18 7 2 := ⟨RX5, TX5, 3, rfl, by decide, wl (pc1 _ (List.mem_of_getElem? (i := 115) (by decide +kernel))) rfl, wx_X5⟩
theorem fw_X5_18 : FLw RX5 18 7 2 (.int) := ⟨RX5, TX5, 3, tyX5, rfl, by decide, wl (pc1 _ (List.mem_of_getElem? (i := 115) (by decide +kernel))) rfl, wx_X5, tyX5_ok, nmX5, rfl, by decide +kernel⟩
theorem fk_X5_30 : FLk RX5 30 10 1 := ⟨RX8, TX8, 2, rfl, by decide, wl (pc1 _ (List.mem_of_getElem? (i := 83) (by decide +kernel))) rfl, wx_X8⟩
theorem fk_X6_13 : FLk RX6 13 8 0 := ⟨RX6, TX6, 3, rfl, by decide, wl (pc2 _ (List.mem_of_getElem? (i := 28) (by decide +kernel))) rfl, wx_X6⟩
theorem fk_X6_17 : FLk RX6 17 8 1 := ⟨RX6, TX6, 3, rfl, by decide, wl (pc2 _ (List.mem_of_getElem? (i := 29) (by decide +kernel))) rfl, wx_X6⟩
theorem fk_X6_21 : FLk RX6 21 8 2 := ⟨RX6, TX6, 3, rfl, by decide, wl (pc2 _ (List.mem_of_getElem? (i := 30) (by decide +kernel))) rfl, wx_X6⟩
theorem fk_X7_7 : FLk RX7 7 9 0 := ⟨RX7, TX7, 2, rfl, by decide, wl (pc1 _ (List.mem_of_getElem? (i := 96) (by decide +kernel))) rfl, wx_X7⟩
theorem fk_X7_13 : FLk RX7 13 9 1 := ⟨RX7, TX7, 2, rfl, by decide, wl (pc1 _ (List.mem_of_getElem? (i := 97) (by decide +kernel))) rfl, wx_X7⟩
theorem fw_X7_13 : FLw RX7 13 9 1 (.int) := ⟨RX7, TX7, 2, tyX7, rfl, by decide, wl (pc1 _ (List.mem_of_getElem? (i := 97) (by decide +kernel))) rfl, wx_X7, tyX7_ok, nmX7, rfl, by decide +kernel⟩
theorem fk_X8_9 : FLk RX8 9 10 0 := ⟨RX8, TX8, 2, rfl, by decide, wl (pc1 _ (List.mem_of_getElem? (i := 78) (by decide +kernel))) rfl, wx_X8⟩
theorem fk_X8_15 : FLk RX8 15 10 1 := ⟨RX8, TX8, 2, rfl, by decide, wl (pc1 _ (List.mem_of_getElem? (i := 79) (by decide +kernel))) rfl, wx_X8⟩
theorem fw_X8_15 : FLw RX8 15 10 1 (.int) := ⟨RX8, TX8, 2, tyX8, rfl, by decide, wl (pc1 _ (List.mem_of_getElem? (i := 79) (by decide +kernel))) rfl, wx_X8, tyX8_ok, nmX8, rfl, by decide +kernel⟩
theorem fk_X9_9 : FLk RX9 9 11 3 := ⟨RX9, TX9, 6, rfl, by decide, wl (pc1 _ (List.mem_of_getElem? (i := 171) (by decide +kernel))) rfl, wx_X9⟩
theorem fw_X9_9 : FLw RX9 9 11 3 (.int) := ⟨RX9, TX9, 6, tyX9, rfl, by decide, wl (pc1 _ (List.mem_of_getElem? (i := 171) (by decide +kernel))) rfl, wx_X9, tyX9_ok, nmX9, rfl, by decide +kernel⟩
theorem fk_X9_15 : FLk RX9 15 11 4 := ⟨RX9, TX9, 6, rfl, by decide, wl (pc1 _ (List.mem_of_getElem? (i := 173) (by decide +kernel))) rfl, wx_X9⟩
theorem fw_X9_15 : FLw RX9 15 11 4 (.int) := ⟨RX9, TX9, 6, tyX9, rfl, by decide, wl (pc1 _ (List.mem_of_getElem? (i := 173) (by decide +kernel))) rfl, wx_X9, tyX9_ok, nmX9, rfl, by decide +kernel⟩
theorem fk_X9_18 : FLk RX9 18 11 5 := ⟨RX9, TX9, 6, rfl, by decide, wl (pc1 _ (List.mem_of_getElem? (i := 175) (by decide +kernel))) rfl, wx_X9⟩
theorem fw_X9_18 : FLw RX9 18 11 5 (.int) := ⟨RX9, TX9, 6, tyX9, rfl, by decide, wl (pc1 _ (List.mem_of_getElem? (i := 175) (by decide +kernel))) rfl, wx_X9, tyX9_ok, nmX9, rfl, by decide +kernel⟩
theorem fk_X9_21 : FLk RX9 21 11 0 := ⟨RX9, TX9, 6, rfl, by decide, wl (pc1 _ (List.mem_of_getElem? (i := 165) (by decide +kernel))) rfl, wx_X9⟩
theorem fk_X9_25 : FLk RX9 25 11 1 := ⟨RX9, TX9, 6, rfl, by decide, wl (pc1 _ (List.mem_of_getElem? (i := 167) (by decide +kernel))) rfl, wx_X9⟩
theorem fk_X9_28 : FLk RX9 28 11 2 := ⟨RX9, TX9, 6, rfl, by decide, wl (pc1 _ (List.mem_of_getElem? (i := 169) (by decide +kernel))) rfl, wx_X9⟩
theorem fw_X9_28 : FLw RX9 28 11 2 (.object "MustNotStop$Law") := ⟨RX9, TX9, 6, tyX9, rfl, by decide, wl (pc1 _ (List.mem_of_getElem? (i := 169) (by decide +kernel))) rfl, wx_X9, tyX9_ok, nmX9, rfl, by decide +kernel⟩
theorem fk_X9_32 : FLk RX9 32 3 2 := ⟨RX1, TX1, 9, rfl, by decide, wl (pc1 _ (List.mem_of_getElem? (i := 201) (by decide +kernel))) rfl, wx_X1⟩
theorem fw_X9_32 : FLw RX9 32 3 2 (.int) := ⟨RX1, TX1, 9, tyX1, rfl, by decide, wl (pc1 _ (List.mem_of_getElem? (i := 201) (by decide +kernel))) rfl, wx_X1, tyX1_ok, nmX1, rfl, by decide +kernel⟩
theorem fk_X9_51 : FLk RX9 51 3 3 := ⟨RX1, TX1, 9, rfl, by decide, wl (pc1 _ (List.mem_of_getElem? (i := 204) (by decide +kernel))) rfl, wx_X1⟩
theorem fw_X9_51 : FLw RX9 51 3 3 (.int) := ⟨RX1, TX1, 9, tyX1, rfl, by decide, wl (pc1 _ (List.mem_of_getElem? (i := 204) (by decide +kernel))) rfl, wx_X1, tyX1_ok, nmX1, rfl, by decide +kernel⟩
theorem fk_X9_68 : FLk RX9 68 3 1 := ⟨RX1, TX1, 9, rfl, by decide, wl (pc1 _ (List.mem_of_getElem? (i := 198) (by decide +kernel))) rfl, wx_X1⟩
theorem fk_X9_71 : FLk RX9 71 3 4 := ⟨RX1, TX1, 9, rfl, by decide, wl (pc1 _ (List.mem_of_getElem? (i := 207) (by decide +kernel))) rfl, wx_X1⟩
theorem fw_X9_71 : FLw RX9 71 3 4 (.int) := ⟨RX1, TX1, 9, tyX1, rfl, by decide, wl (pc1 _ (List.mem_of_getElem? (i := 207) (by decide +kernel))) rfl, wx_X1, tyX1_ok, nmX1, rfl, by decide +kernel⟩
theorem fk_X9_74 : FLk RX9 74 3 5 := ⟨RX1, TX1, 9, rfl, by decide, wl (pc1 _ (List.mem_of_getElem? (i := 210) (by decide +kernel))) rfl, wx_X1⟩
theorem fw_X9_74 : FLw RX9 74 3 5 (.int) := ⟨RX1, TX1, 9, tyX1, rfl, by decide, wl (pc1 _ (List.mem_of_getElem? (i := 210) (by decide +kernel))) rfl, wx_X1, tyX1_ok, nmX1, rfl, by decide +kernel⟩
theorem fk_X9_83 : FLk RX9 83 3 6 := ⟨RX1, TX1, 9, rfl, by decide, wl (pc1 _ (List.mem_of_getElem? (i := 213) (by decide +kernel))) rfl, wx_X1⟩
theorem fw_X9_83 : FLw RX9 83 3 6 (.int) := ⟨RX1, TX1, 9, tyX1, rfl, by decide, wl (pc1 _ (List.mem_of_getElem? (i := 213) (by decide +kernel))) rfl, wx_X1, tyX1_ok, nmX1, rfl, by decide +kernel⟩
theorem fk_X9_89 : FLk RX9 89 3 7 := ⟨RX1, TX1, 9, rfl, by decide, wl (pc1 _ (List.mem_of_getElem? (i := 216) (by decide +kernel))) rfl, wx_X1⟩
theorem fw_X9_89 : FLw RX9 89 3 7 (.int) := ⟨RX1, TX1, 9, tyX1, rfl, by decide, wl (pc1 _ (List.mem_of_getElem? (i := 216) (by decide +kernel))) rfl, wx_X1, tyX1_ok, nmX1, rfl, by decide +kernel⟩
theorem fk_X9_99 : FLk RX9 99 3 8 := ⟨RX1, TX1, 9, rfl, by decide, wl (pc1 _ (List.mem_of_getElem? (i := 219) (by decide +kernel))) rfl, wx_X1⟩
theorem fw_X9_99 : FLw RX9 99 3 8 (.int) := ⟨RX1, TX1, 9, tyX1, rfl, by decide, wl (pc1 _ (List.mem_of_getElem? (i := 219) (by decide +kernel))) rfl, wx_X1, tyX1_ok, nmX1, rfl, by decide +kernel⟩
theorem mk_J0_47 : MSk RJ0 47 yJ2_coderFromArrayLen_85cad cJ2_coderFromArrayLen_85cad 2 (some .byte) := ⟨wl (pc4 _ (List.mem_of_getElem? (i := 49) (by decide +kernel))) rfl, wl (pc4 _ (List.mem_of_getElem? (i := 50) (by decide +kernel))) rfl, wl (pc1 _ (List.mem_of_getElem? (i := 16) (by decide +kernel))) rfl, wl (pc4 _ (List.mem_of_getElem? (i := 51) (by decide +kernel))) rfl⟩
theorem mk_J0_54 : MSk RJ0 54 yJ7_copyOfRange_39247 cJ7_copyOfRange_39247 3 (some (.array .byte)) := ⟨wl (pc4 _ (List.mem_of_getElem? (i := 33) (by decide +kernel))) rfl, wl (pc4 _ (List.mem_of_getElem? (i := 34) (by decide +kernel))) rfl, wl (pc1 _ (List.mem_of_getElem? (i := 22) (by decide +kernel))) rfl, wl (pc4 _ (List.mem_of_getElem? (i := 35) (by decide +kernel))) rfl⟩
theorem mk_J0_106 : MSk RJ0 106 yJ1_inflate_0e8fd cJ1_inflate_0e8fd 5 none := ⟨wl (pc3 _ (List.mem_of_getElem? (i := 220) (by decide +kernel))) rfl, wl (pc3 _ (List.mem_of_getElem? (i := 201) (by decide +kernel))) rfl, wl (pc1 _ (List.mem_of_getElem? (i := 14) (by decide +kernel))) rfl, wl (pc3 _ (List.mem_of_getElem? (i := 202) (by decide +kernel))) rfl⟩
theorem mk_J0_335 : MVk RJ0 335 RJ0 yJ0_coder_7d493 cJ0_coder_7d493 1 (some .byte) := ⟨wl (pc2 _ (List.mem_of_getElem? (i := 123) (by decide +kernel))) rfl, wl (pc2 _ (List.mem_of_getElem? (i := 124) (by decide +kernel))) rfl, wl (pc2 _ (List.mem_of_getElem? (i := 125) (by decide +kernel))) rfl, wl (pc1 _ (List.mem_of_getElem? (i := 13) (by decide +kernel))) rfl, wl (pc2 _ (List.mem_of_getElem? (i := 126) (by decide +kernel))) rfl⟩
theorem mk_J0_489 : MIk RJ0 489 yJ0_init_db425 cJ0_init_db425 5 none := ⟨wl (pc4 _ (List.mem_of_getElem? (i := 15) (by decide +kernel))) rfl, wl (pc4 _ (List.mem_of_getElem? (i := 16) (by decide +kernel))) rfl, wl (pc1 _ (List.mem_of_getElem? (i := 13) (by decide +kernel))) rfl, wl (pc4 _ (List.mem_of_getElem? (i := 17) (by decide +kernel))) rfl⟩
theorem mk_J0_492 : MVk RJ0 492 RJ0 yJ0_isLatin1_aae02 cJ0_isLatin1_aae02 1 (some .boolean) := ⟨wl (pc2 _ (List.mem_of_getElem? (i := 133) (by decide +kernel))) rfl, wl (pc2 _ (List.mem_of_getElem? (i := 134) (by decide +kernel))) rfl, wl (pc2 _ (List.mem_of_getElem? (i := 135) (by decide +kernel))) rfl, wl (pc1 _ (List.mem_of_getElem? (i := 13) (by decide +kernel))) rfl, wl (pc2 _ (List.mem_of_getElem? (i := 136) (by decide +kernel))) rfl⟩
theorem mk_J0_495 : MSk RJ0 495 yJ1_charAt_3b067 cJ1_charAt_3b067 2 (some .char) := ⟨wl (pc2 _ (List.mem_of_getElem? (i := 137) (by decide +kernel))) rfl, wl (pc2 _ (List.mem_of_getElem? (i := 138) (by decide +kernel))) rfl, wl (pc1 _ (List.mem_of_getElem? (i := 14) (by decide +kernel))) rfl, wl (pc2 _ (List.mem_of_getElem? (i := 139) (by decide +kernel))) rfl⟩
theorem mk_J0_498 : MSk RJ0 498 yJ2_charAt_3b067 cJ2_charAt_3b067 2 (some .char) := ⟨wl (pc2 _ (List.mem_of_getElem? (i := 148) (by decide +kernel))) rfl, wl (pc2 _ (List.mem_of_getElem? (i := 149) (by decide +kernel))) rfl, wl (pc1 _ (List.mem_of_getElem? (i := 16) (by decide +kernel))) rfl, wl (pc2 _ (List.mem_of_getElem? (i := 150) (by decide +kernel))) rfl⟩
theorem mk_J0_505 : MVk RJ0 505 RJ0 yJ0_length_8abf5 cJ0_length_8abf5 1 (some .int) := ⟨wl (pc3 _ (List.mem_of_getElem? (i := 6) (by decide +kernel))) rfl, wl (pc2 _ (List.mem_of_getElem? (i := 120) (by decide +kernel))) rfl, wl (pc2 _ (List.mem_of_getElem? (i := 121) (by decide +kernel))) rfl, wl (pc1 _ (List.mem_of_getElem? (i := 13) (by decide +kernel))) rfl, wl (pc2 _ (List.mem_of_getElem? (i := 122) (by decide +kernel))) rfl⟩
theorem mk_J0_633 : MVk RJ0 633 RJ0 yJ0_indexOf_7cf53 cJ0_indexOf_7cf53 3 (some .int) := ⟨wl (pc3 _ (List.mem_of_getElem? (i := 2) (by decide +kernel))) rfl, wl (pc3 _ (List.mem_of_getElem? (i := 3) (by decide +kernel))) rfl, wl (pc3 _ (List.mem_of_getElem? (i := 4) (by decide +kernel))) rfl, wl (pc1 _ (List.mem_of_getElem? (i := 13) (by decide +kernel))) rfl, wl (pc3 _ (List.mem_of_getElem? (i := 5) (by decide +kernel))) rfl⟩
theorem mk_J0_637 : MSk RJ0 637 yJ1_indexOf_4cfef cJ1_indexOf_4cfef 4 (some .int) := ⟨wl (pc3 _ (List.mem_of_getElem? (i := 7) (by decide +kernel))) rfl, wl (pc3 _ (List.mem_of_getElem? (i := 8) (by decide +kernel))) rfl, wl (pc1 _ (List.mem_of_getElem? (i := 14) (by decide +kernel))) rfl, wl (pc3 _ (List.mem_of_getElem? (i := 9) (by decide +kernel))) rfl⟩
theorem mk_J0_640 : MSk RJ0 640 yJ2_indexOf_4cfef cJ2_indexOf_4cfef 4 (some .int) := ⟨wl (pc3 _ (List.mem_of_getElem? (i := 20) (by decide +kernel))) rfl, wl (pc3 _ (List.mem_of_getElem? (i := 21) (by decide +kernel))) rfl, wl (pc1 _ (List.mem_of_getElem? (i := 16) (by decide +kernel))) rfl, wl (pc3 _ (List.mem_of_getElem? (i := 22) (by decide +kernel))) rfl⟩
theorem mk_J0_1051 : MSk RJ0 1051 yJ2_compress_39247 cJ2_compress_39247 6 (some (.array .byte)) := ⟨wl (pc4 _ (List.mem_of_getElem? (i := 42) (by decide +kernel))) rfl, wl (pc4 _ (List.mem_of_getElem? (i := 43) (by decide +kernel))) rfl, wl (pc1 _ (List.mem_of_getElem? (i := 16) (by decide +kernel))) rfl, wl (pc4 _ (List.mem_of_getElem? (i := 44) (by decide +kernel))) rfl⟩
theorem mk_J0_1059 : MSk RJ0 1059 yJ3_checkIndex_8e157 cJ3_checkIndex_8e157 3 (some .int) := ⟨wl (pc2 _ (List.mem_of_getElem? (i := 145) (by decide +kernel))) rfl, wl (pc2 _ (List.mem_of_getElem? (i := 146) (by decide +kernel))) rfl, wl (pc1 _ (List.mem_of_getElem? (i := 15) (by decide +kernel))) rfl, wl (pc2 _ (List.mem_of_getElem? (i := 147) (by decide +kernel))) rfl⟩
theorem mk_J0_1062 : MSk RJ0 1062 yJ3_checkFromToIndex_8c36e cJ3_checkFromToIndex_8c36e 4 (some .int) := ⟨wl (pc3 _ (List.mem_of_getElem? (i := 35) (by decide +kernel))) rfl, wl (pc3 _ (List.mem_of_getElem? (i := 36) (by decide +kernel))) rfl, wl (pc1 _ (List.mem_of_getElem? (i := 15) (by decide +kernel))) rfl, wl (pc3 _ (List.mem_of_getElem? (i := 37) (by decide +kernel))) rfl⟩
theorem mk_J0_1065 : MSk RJ0 1065 yJ3_checkFromIndexSize_8c36e cJ3_checkFromIndexSize_8c36e 4 (some .int) := ⟨wl (pc3 _ (List.mem_of_getElem? (i := 212) (by decide +kernel))) rfl, wl (pc3 _ (List.mem_of_getElem? (i := 213) (by decide +kernel))) rfl, wl (pc1 _ (List.mem_of_getElem? (i := 15) (by decide +kernel))) rfl, wl (pc3 _ (List.mem_of_getElem? (i := 214) (by decide +kernel))) rfl⟩
theorem mk_J1_9 : MSk RJ1 9 yJ0_checkIndex_df160 cJ0_checkIndex_df160 2 none := ⟨wl (pc2 _ (List.mem_of_getElem? (i := 140) (by decide +kernel))) rfl, wl (pc2 _ (List.mem_of_getElem? (i := 141) (by decide +kernel))) rfl, wl (pc1 _ (List.mem_of_getElem? (i := 13) (by decide +kernel))) rfl, wl (pc2 _ (List.mem_of_getElem? (i := 142) (by decide +kernel))) rfl⟩
theorem mk_J1_88 : MSk RJ1 88 yJ1_canEncode_9a6ad cJ1_canEncode_9a6ad 1 (some .boolean) := ⟨wl (pc3 _ (List.mem_of_getElem? (i := 10) (by decide +kernel))) rfl, wl (pc3 _ (List.mem_of_getElem? (i := 11) (by decide +kernel))) rfl, wl (pc1 _ (List.mem_of_getElem? (i := 14) (by decide +kernel))) rfl, wl (pc3 _ (List.mem_of_getElem? (i := 12) (by decide +kernel))) rfl⟩
theorem mk_J1_95 : MSk RJ1 95 yJ1_indexOfChar_4cfef cJ1_indexOfChar_4cfef 6 (some .int) := ⟨wl (pc3 _ (List.mem_of_getElem? (i := 17) (by decide +kernel))) rfl, wl (pc3 _ (List.mem_of_getElem? (i := 18) (by decide +kernel))) rfl, wl (pc1 _ (List.mem_of_getElem? (i := 14) (by decide +kernel))) rfl, wl (pc3 _ (List.mem_of_getElem? (i := 19) (by decide +kernel))) rfl⟩
theorem mk_J1_240 : MSk RJ1 240 yJ2_inflate_0e8fd cJ2_inflate_0e8fd 6 none := ⟨wl (pc3 _ (List.mem_of_getElem? (i := 203) (by decide +kernel))) rfl, wl (pc3 _ (List.mem_of_getElem? (i := 204) (by decide +kernel))) rfl, wl (pc1 _ (List.mem_of_getElem? (i := 16) (by decide +kernel))) rfl, wl (pc3 _ (List.mem_of_getElem? (i := 205) (by decide +kernel))) rfl⟩
theorem mk_J15_105 : MSk RJ15 105 yJ3_checkIndex_8e157 cJ3_checkIndex_8e157 3 (some .int) := ⟨wl (pc6 _ (List.mem_of_getElem? (i := 74) (by decide +kernel))) rfl, wl (pc2 _ (List.mem_of_getElem? (i := 146) (by decide +kernel))) rfl, wl (pc1 _ (List.mem_of_getElem? (i := 15) (by decide +kernel))) rfl, wl (pc2 _ (List.mem_of_getElem? (i := 147) (by decide +kernel))) rfl⟩
theorem mk_J2_11 : MSk RJ2 11 yJ2_newBytesLength_0f7a4 cJ2_newBytesLength_0f7a4 1 (some .int) := ⟨wl (pc3 _ (List.mem_of_getElem? (i := 114) (by decide +kernel))) rfl, wl (pc3 _ (List.mem_of_getElem? (i := 115) (by decide +kernel))) rfl, wl (pc1 _ (List.mem_of_getElem? (i := 16) (by decide +kernel))) rfl, wl (pc3 _ (List.mem_of_getElem? (i := 116) (by decide +kernel))) rfl⟩
theorem mk_J2_48 : MSk RJ2 48 yJ2_length_9d52b cJ2_length_9d52b 1 (some .int) := ⟨wl (pc2 _ (List.mem_of_getElem? (i := 154) (by decide +kernel))) rfl, wl (pc2 _ (List.mem_of_getElem? (i := 155) (by decide +kernel))) rfl, wl (pc1 _ (List.mem_of_getElem? (i := 16) (by decide +kernel))) rfl, wl (pc2 _ (List.mem_of_getElem? (i := 156) (by decide +kernel))) rfl⟩
theorem mk_J2_67 : MSk RJ2 67 yJ2_checkIndex_2214a cJ2_checkIndex_2214a 2 none := ⟨wl (pc2 _ (List.mem_of_getElem? (i := 151) (by decide +kernel))) rfl, wl (pc2 _ (List.mem_of_getElem? (i := 152) (by decide +kernel))) rfl, wl (pc1 _ (List.mem_of_getElem? (i := 16) (by decide +kernel))) rfl, wl (pc2 _ (List.mem_of_getElem? (i := 153) (by decide +kernel))) rfl⟩
theorem mk_J2_71 : MSk RJ2 71 yJ2_getChar_3b067 cJ2_getChar_3b067 2 (some .char) := ⟨wl (pc2 _ (List.mem_of_getElem? (i := 158) (by decide +kernel))) rfl, wl (pc2 _ (List.mem_of_getElem? (i := 159) (by decide +kernel))) rfl, wl (pc1 _ (List.mem_of_getElem? (i := 16) (by decide +kernel))) rfl, wl (pc2 _ (List.mem_of_getElem? (i := 160) (by decide +kernel))) rfl⟩
theorem mk_J2_96 : MSk RJ2 96 yJ2_checkBoundsBeginEnd_d044e cJ2_checkBoundsBeginEnd_d044e 3 none := ⟨wl (pc3 _ (List.mem_of_getElem? (i := 29) (by decide +kernel))) rfl, wl (pc3 _ (List.mem_of_getElem? (i := 30) (by decide +kernel))) rfl, wl (pc1 _ (List.mem_of_getElem? (i := 16) (by decide +kernel))) rfl, wl (pc3 _ (List.mem_of_getElem? (i := 31) (by decide +kernel))) rfl⟩
theorem mk_J2_111 : MSk RJ2 111 yJ2_putChar_b72d1 cJ2_putChar_b72d1 3 none := ⟨wl (pc3 _ (List.mem_of_getElem? (i := 183) (by decide +kernel))) rfl, wl (pc3 _ (List.mem_of_getElem? (i := 184) (by decide +kernel))) rfl, wl (pc1 _ (List.mem_of_getElem? (i := 16) (by decide +kernel))) rfl, wl (pc3 _ (List.mem_of_getElem? (i := 185) (by decide +kernel))) rfl⟩
theorem mk_J2_123 : MSk RJ2 123 yJ2_compress_5af95 cJ2_compress_5af95 7 (some .int) := ⟨wl (pc4 _ (List.mem_of_getElem? (i := 45) (by decide +kernel))) rfl, wl (pc4 _ (List.mem_of_getElem? (i := 46) (by decide +kernel))) rfl, wl (pc1 _ (List.mem_of_getElem? (i := 16) (by decide +kernel))) rfl, wl (pc4 _ (List.mem_of_getElem? (i := 47) (by decide +kernel))) rfl⟩
theorem mk_J2_126 : MSk RJ2 126 yJ7_copyOfRange_39247 cJ7_copyOfRange_39247 3 (some (.array .byte)) := ⟨wl (pc4 _ (List.mem_of_getElem? (i := 48) (by decide +kernel))) rfl, wl (pc4 _ (List.mem_of_getElem? (i := 34) (by decide +kernel))) rfl, wl (pc1 _ (List.mem_of_getElem? (i := 22) (by decide +kernel))) rfl, wl (pc4 _ (List.mem_of_getElem? (i := 35) (by decide +kernel))) rfl⟩
theorem mk_J2_157 : MSk RJ2 157 yJ11_highSurrogate_5068e cJ11_highSurrogate_5068e 1 (some .char) := ⟨wl (pc3 _ (List.mem_of_getElem? (i := 47) (by decide +kernel))) rfl, wl (pc3 _ (List.mem_of_getElem? (i := 48) (by decide +kernel))) rfl, wl (pc1 _ (List.mem_of_getElem? (i := 17) (by decide +kernel))) rfl, wl (pc3 _ (List.mem_of_getElem? (i := 49) (by decide +kernel))) rfl⟩
theorem mk_J2_161 : MSk RJ2 161 yJ11_lowSurrogate_5068e cJ11_lowSurrogate_5068e 1 (some .char) := ⟨wl (pc3 _ (List.mem_of_getElem? (i := 51) (by decide +kernel))) rfl, wl (pc3 _ (List.mem_of_getElem? (i := 52) (by decide +kernel))) rfl, wl (pc1 _ (List.mem_of_getElem? (i := 17) (by decide +kernel))) rfl, wl (pc3 _ (List.mem_of_getElem? (i := 53) (by decide +kernel))) rfl⟩
theorem mk_J2_164 : MSk RJ2 164 yJ11_isValidCodePoint_9a6ad cJ11_isValidCodePoint_9a6ad 2 (some .boolean) := ⟨wl (pc3 _ (List.mem_of_getElem? (i := 44) (by decide +kernel))) rfl, wl (pc3 _ (List.mem_of_getElem? (i := 45) (by decide +kernel))) rfl, wl (pc1 _ (List.mem_of_getElem? (i := 17) (by decide +kernel))) rfl, wl (pc3 _ (List.mem_of_getElem? (i := 46) (by decide +kernel))) rfl⟩
theorem mk_J2_173 : MSk RJ2 173 yJ2_checkBoundsOffCount_d044e cJ2_checkBoundsOffCount_d044e 3 none := ⟨wl (pc3 _ (List.mem_of_getElem? (i := 206) (by decide +kernel))) rfl, wl (pc3 _ (List.mem_of_getElem? (i := 207) (by decide +kernel))) rfl, wl (pc1 _ (List.mem_of_getElem? (i := 16) (by decide +kernel))) rfl, wl (pc3 _ (List.mem_of_getElem? (i := 208) (by decide +kernel))) rfl⟩
theorem mk_J2_228 : MSk RJ2 228 yJ2_indexOfChar_4cfef cJ2_indexOfChar_4cfef 4 (some .int) := ⟨wl (pc3 _ (List.mem_of_getElem? (i := 26) (by decide +kernel))) rfl, wl (pc3 _ (List.mem_of_getElem? (i := 27) (by decide +kernel))) rfl, wl (pc1 _ (List.mem_of_getElem? (i := 16) (by decide +kernel))) rfl, wl (pc3 _ (List.mem_of_getElem? (i := 28) (by decide +kernel))) rfl⟩
theorem mk_J2_232 : MSk RJ2 232 yJ2_indexOfSupplementary_4cfef cJ2_indexOfSupplementary_4cfef 7 (some .int) := ⟨wl (pc3 _ (List.mem_of_getElem? (i := 41) (by decide +kernel))) rfl, wl (pc3 _ (List.mem_of_getElem? (i := 42) (by decide +kernel))) rfl, wl (pc1 _ (List.mem_of_getElem? (i := 16) (by decide +kernel))) rfl, wl (pc3 _ (List.mem_of_getElem? (i := 43) (by decide +kernel))) rfl⟩
theorem mk_J2_241 : MSk RJ2 241 yJ0_checkBoundsBeginEnd_23922 cJ0_checkBoundsBeginEnd_23922 3 none := ⟨wl (pc3 _ (List.mem_of_getElem? (i := 32) (by decide +kernel))) rfl, wl (pc3 _ (List.mem_of_getElem? (i := 33) (by decide +kernel))) rfl, wl (pc1 _ (List.mem_of_getElem? (i := 13) (by decide +kernel))) rfl, wl (pc3 _ (List.mem_of_getElem? (i := 34) (by decide +kernel))) rfl⟩
theorem mk_J2_244 : MSk RJ2 244 yJ2_indexOfCharUnsafe_4cfef cJ2_indexOfCharUnsafe_4cfef 5 (some .int) := ⟨wl (pc3 _ (List.mem_of_getElem? (i := 38) (by decide +kernel))) rfl, wl (pc3 _ (List.mem_of_getElem? (i := 39) (by decide +kernel))) rfl, wl (pc1 _ (List.mem_of_getElem? (i := 16) (by decide +kernel))) rfl, wl (pc3 _ (List.mem_of_getElem? (i := 40) (by decide +kernel))) rfl⟩
theorem mk_J2_393 : MSk RJ2 393 yJ2_getChars_ba4f3 cJ2_getChars_ba4f3 7 (some .int) := ⟨wl (pc4 _ (List.mem_of_getElem? (i := 1) (by decide +kernel))) rfl, wl (pc4 _ (List.mem_of_getElem? (i := 2) (by decide +kernel))) rfl, wl (pc1 _ (List.mem_of_getElem? (i := 16) (by decide +kernel))) rfl, wl (pc4 _ (List.mem_of_getElem? (i := 3) (by decide +kernel))) rfl⟩
theorem mk_J2_414 : MSk RJ2 414 yJ0_checkIndex_df160 cJ0_checkIndex_df160 2 none := ⟨wl (pc2 _ (List.mem_of_getElem? (i := 157) (by decide +kernel))) rfl, wl (pc2 _ (List.mem_of_getElem? (i := 141) (by decide +kernel))) rfl, wl (pc1 _ (List.mem_of_getElem? (i := 13) (by decide +kernel))) rfl, wl (pc2 _ (List.mem_of_getElem? (i := 142) (by decide +kernel))) rfl⟩
theorem mk_J2_419 : MSk RJ2 419 yJ0_checkBoundsOffCount_cabcc cJ0_checkBoundsOffCount_cabcc 3 (some .int) := ⟨wl (pc3 _ (List.mem_of_getElem? (i := 209) (by decide +kernel))) rfl, wl (pc3 _ (List.mem_of_getElem? (i := 210) (by decide +kernel))) rfl, wl (pc1 _ (List.mem_of_getElem? (i := 13) (by decide +kernel))) rfl, wl (pc3 _ (List.mem_of_getElem? (i := 211) (by decide +kernel))) rfl⟩
theorem mk_J4_1 : MIk RJ4 1 yJ5_init_d00df cJ5_init_d00df 2 none := ⟨wl (pc3 _ (List.mem_of_getElem? (i := 106) (by decide +kernel))) rfl, wl (pc3 _ (List.mem_of_getElem? (i := 107) (by decide +kernel))) rfl, wl (pc1 _ (List.mem_of_getElem? (i := 19) (by decide +kernel))) rfl, wl (pc3 _ (List.mem_of_getElem? (i := 108) (by decide +kernel))) rfl⟩
theorem mk_J4_29 : MIk RJ4 29 yJ5_append_cf1ce cJ5_append_cf1ce 3 (some (.object "java/lang/AbstractStringBuilder")) := ⟨wl (pc3 _ (List.mem_of_getElem? (i := 137) (by decide +kernel))) rfl, wl (pc3 _ (List.mem_of_getElem? (i := 138) (by decide +kernel))) rfl, wl (pc1 _ (List.mem_of_getElem? (i := 19) (by decide +kernel))) rfl, wl (pc3 _ (List.mem_of_getElem? (i := 139) (by decide +kernel))) rfl⟩
theorem mk_J4_53 : MIk RJ4 53 yJ5_append_c97b9 cJ5_append_c97b9 4 (some (.object "java/lang/AbstractStringBuilder")) := ⟨wl (pc3 _ (List.mem_of_getElem? (i := 225) (by decide +kernel))) rfl, wl (pc3 _ (List.mem_of_getElem? (i := 226) (by decide +kernel))) rfl, wl (pc1 _ (List.mem_of_getElem? (i := 19) (by decide +kernel))) rfl, wl (pc3 _ (List.mem_of_getElem? (i := 227) (by decide +kernel))) rfl⟩
theorem mk_J4_137 : MIk RJ4 137 yJ0_init_81219 cJ0_init_81219 2 none := ⟨wl (pc4 _ (List.mem_of_getElem? (i := 12) (by decide +kernel))) rfl, wl (pc4 _ (List.mem_of_getElem? (i := 13) (by decide +kernel))) rfl, wl (pc1 _ (List.mem_of_getElem? (i := 13) (by decide +kernel))) rfl, wl (pc4 _ (List.mem_of_getElem? (i := 14) (by decide +kernel))) rfl⟩
theorem mk_J4_343 : MIk RJ4 343 yJ5_length_8abf5 cJ5_length_8abf5 1 (some .int) := ⟨wl (pc4 _ (List.mem_of_getElem? (i := 30) (by decide +kernel))) rfl, wl (pc4 _ (List.mem_of_getElem? (i := 25) (by decide +kernel))) rfl, wl (pc1 _ (List.mem_of_getElem? (i := 19) (by decide +kernel))) rfl, wl (pc4 _ (List.mem_of_getElem? (i := 31) (by decide +kernel))) rfl⟩
theorem mk_J5_26 : MSk RJ5 26 yJ2_newBytesFor_77867 cJ2_newBytesFor_77867 1 (some (.array .byte)) := ⟨wl (pc3 _ (List.mem_of_getElem? (i := 111) (by decide +kernel))) rfl, wl (pc3 _ (List.mem_of_getElem? (i := 112) (by decide +kernel))) rfl, wl (pc1 _ (List.mem_of_getElem? (i := 16) (by decide +kernel))) rfl, wl (pc3 _ (List.mem_of_getElem? (i := 113) (by decide +kernel))) rfl⟩
theorem mk_J5_32 : MVk RJ5 32 RJ0 yJ0_length_8abf5 cJ0_length_8abf5 1 (some .int) := ⟨wl (pc3 _ (List.mem_of_getElem? (i := 186) (by decide +kernel))) rfl, wl (pc2 _ (List.mem_of_getElem? (i := 120) (by decide +kernel))) rfl, wl (pc2 _ (List.mem_of_getElem? (i := 121) (by decide +kernel))) rfl, wl (pc1 _ (List.mem_of_getElem? (i := 13) (by decide +kernel))) rfl, wl (pc2 _ (List.mem_of_getElem? (i := 122) (by decide +kernel))) rfl⟩
theorem mk_J5_40 : MVk RJ5 40 RJ0 yJ0_coder_7d493 cJ0_coder_7d493 1 (some .byte) := ⟨wl (pc3 _ (List.mem_of_getElem? (i := 195) (by decide +kernel))) rfl, wl (pc2 _ (List.mem_of_getElem? (i := 124) (by decide +kernel))) rfl, wl (pc2 _ (List.mem_of_getElem? (i := 125) (by decide +kernel))) rfl, wl (pc1 _ (List.mem_of_getElem? (i := 13) (by decide +kernel))) rfl, wl (pc2 _ (List.mem_of_getElem? (i := 126) (by decide +kernel))) rfl⟩
theorem mk_J5_108 : MSk RJ5 108 yJ7_copyOf_9075b cJ7_copyOf_9075b 3 (some (.array .byte)) := ⟨wl (pc3 _ (List.mem_of_getElem? (i := 161) (by decide +kernel))) rfl, wl (pc3 _ (List.mem_of_getElem? (i := 162) (by decide +kernel))) rfl, wl (pc1 _ (List.mem_of_getElem? (i := 22) (by decide +kernel))) rfl, wl (pc3 _ (List.mem_of_getElem? (i := 163) (by decide +kernel))) rfl⟩
theorem mk_J5_114 : MSk RJ5 114 yJ8_newLength_cabcc cJ8_newLength_cabcc 4 (some .int) := ⟨wl (pc3 _ (List.mem_of_getElem? (i := 152) (by decide +kernel))) rfl, wl (pc3 _ (List.mem_of_getElem? (i := 153) (by decide +kernel))) rfl, wl (pc1 _ (List.mem_of_getElem? (i := 21) (by decide +kernel))) rfl, wl (pc3 _ (List.mem_of_getElem? (i := 154) (by decide +kernel))) rfl⟩
theorem mk_J5_125 : MSk RJ5 125 yJ1_inflate_0e8fd cJ1_inflate_0e8fd 5 none := ⟨wl (pc3 _ (List.mem_of_getElem? (i := 200) (by decide +kernel))) rfl, wl (pc3 _ (List.mem_of_getElem? (i := 201) (by decide +kernel))) rfl, wl (pc1 _ (List.mem_of_getElem? (i := 14) (by decide +kernel))) rfl, wl (pc3 _ (List.mem_of_getElem? (i := 202) (by decide +kernel))) rfl⟩
theorem mk_J5_226 : MSk RJ5 226 yJ2_putCharsAt_cd4e5 cJ2_putCharsAt_cd4e5 7 (some .int) := ⟨wl (pc3 _ (List.mem_of_getElem? (i := 180) (by decide +kernel))) rfl, wl (pc3 _ (List.mem_of_getElem? (i := 181) (by decide +kernel))) rfl, wl (pc1 _ (List.mem_of_getElem? (i := 16) (by decide +kernel))) rfl, wl (pc3 _ (List.mem_of_getElem? (i := 182) (by decide +kernel))) rfl⟩
theorem mk_J5_245 : MSk RJ5 245 yJ6_stringSize_0f7a4 cJ6_stringSize_0f7a4 4 (some .int) := ⟨wl (pc3 _ (List.mem_of_getElem? (i := 228) (by decide +kernel))) rfl, wl (pc3 _ (List.mem_of_getElem? (i := 229) (by decide +kernel))) rfl, wl (pc1 _ (List.mem_of_getElem? (i := 25) (by decide +kernel))) rfl, wl (pc3 _ (List.mem_of_getElem? (i := 230) (by decide +kernel))) rfl⟩
theorem mk_J5_248 : MSk RJ5 248 yJ6_getChars_ba4f3 cJ6_getChars_ba4f3 7 (some .int) := ⟨wl (pc3 _ (List.mem_of_getElem? (i := 231) (by decide +kernel))) rfl, wl (pc3 _ (List.mem_of_getElem? (i := 232) (by decide +kernel))) rfl, wl (pc1 _ (List.mem_of_getElem? (i := 25) (by decide +kernel))) rfl, wl (pc3 _ (List.mem_of_getElem? (i := 233) (by decide +kernel))) rfl⟩
theorem mk_J5_251 : MSk RJ5 251 yJ2_getChars_46870 cJ2_getChars_46870 5 (some .int) := ⟨wl (pc3 _ (List.mem_of_getElem? (i := 238) (by decide +kernel))) rfl, wl (pc3 _ (List.mem_of_getElem? (i := 239) (by decide +kernel))) rfl, wl (pc1 _ (List.mem_of_getElem? (i := 16) (by decide +kernel))) rfl, wl (pc4 _ (List.mem_of_getElem? (i := 0) (by decide +kernel))) rfl⟩
theorem mk_J5_399 : MVk RJ5 399 RJ0 yJ0_getBytes_840e7 cJ0_getBytes_840e7 4 none := ⟨wl (pc3 _ (List.mem_of_getElem? (i := 215) (by decide +kernel))) rfl, wl (pc3 _ (List.mem_of_getElem? (i := 216) (by decide +kernel))) rfl, wl (pc3 _ (List.mem_of_getElem? (i := 217) (by decide +kernel))) rfl, wl (pc1 _ (List.mem_of_getElem? (i := 13) (by decide +kernel))) rfl, wl (pc3 _ (List.mem_of_getElem? (i := 218) (by decide +kernel))) rfl⟩
theorem mk_J7_300 : MSk RJ7 300 yJ7_copyOf_6403c cJ7_copyOf_6403c 4 (some (.array (.object "java/lang/Object"))) := ⟨wl (pc5 _ (List.mem_of_getElem? (i := 228) (by decide +kernel))) rfl, wl (pc5 _ (List.mem_of_getElem? (i := 229) (by decide +kernel))) rfl, wl (pc1 _ (List.mem_of_getElem? (i := 22) (by decide +kernel))) rfl, wl (pc5 _ (List.mem_of_getElem? (i := 230) (by decide +kernel))) rfl⟩
theorem mk_J7_339 : MSk RJ7 339 yJ7_copyOfRangeByte_39247 cJ7_copyOfRangeByte_39247 5 (some (.array .byte)) := ⟨wl (pc4 _ (List.mem_of_getElem? (i := 36) (by decide +kernel))) rfl, wl (pc4 _ (List.mem_of_getElem? (i := 37) (by decide +kernel))) rfl, wl (pc1 _ (List.mem_of_getElem? (i := 22) (by decide +kernel))) rfl, wl (pc4 _ (List.mem_of_getElem? (i := 38) (by decide +kernel))) rfl⟩
theorem mk_J7_343 : MSk RJ7 343 yJ7_checkLength_df160 cJ7_checkLength_df160 2 none := ⟨wl (pc4 _ (List.mem_of_getElem? (i := 39) (by decide +kernel))) rfl, wl (pc4 _ (List.mem_of_getElem? (i := 40) (by decide +kernel))) rfl, wl (pc1 _ (List.mem_of_getElem? (i := 22) (by decide +kernel))) rfl, wl (pc4 _ (List.mem_of_getElem? (i := 41) (by decide +kernel))) rfl⟩
theorem mk_J8_201 : MSk RJ8 201 yJ8_hugeLength_7cf53 cJ8_hugeLength_7cf53 3 (some .int) := ⟨wl (pc3 _ (List.mem_of_getElem? (i := 157) (by decide +kernel))) rfl, wl (pc3 _ (List.mem_of_getElem? (i := 158) (by decide +kernel))) rfl, wl (pc1 _ (List.mem_of_getElem? (i := 21) (by decide +kernel))) rfl, wl (pc3 _ (List.mem_of_getElem? (i := 159) (by decide +kernel))) rfl⟩
theorem mk_Jx4a65c_1 : MIk RJx4a65c 1 yJxc12de_init_da8c8 cJxc12de_init_da8c8 1 none := ⟨wl (pc5 _ (List.mem_of_getElem? (i := 167) (by decide +kernel))) rfl, wl (pc5 _ (List.mem_of_getElem? (i := 168) (by decide +kernel))) rfl, wl (pc1 _ (List.mem_of_getElem? (i := 31) (by decide +kernel))) rfl, wl (pc5 _ (List.mem_of_getElem? (i := 169) (by decide +kernel))) rfl⟩
theorem mk_Jx4a65c_66 : MSk RJx4a65c 66 yJ7_copyOf_1904c cJ7_copyOf_1904c 2 (some (.array (.object "java/lang/Object"))) := ⟨wl (pc5 _ (List.mem_of_getElem? (i := 205) (by decide +kernel))) rfl, wl (pc5 _ (List.mem_of_getElem? (i := 206) (by decide +kernel))) rfl, wl (pc1 _ (List.mem_of_getElem? (i := 22) (by decide +kernel))) rfl, wl (pc5 _ (List.mem_of_getElem? (i := 207) (by decide +kernel))) rfl⟩
theorem mk_Jx4a65c_69 : MVk RJx4a65c 69 RJx4a65c yJx4a65c_grow_92f84 cJx4a65c_grow_92f84 4 (some (.array (.object "java/lang/Object"))) := ⟨wl (pc5 _ (List.mem_of_getElem? (i := 200) (by decide +kernel))) rfl, wl (pc5 _ (List.mem_of_getElem? (i := 202) (by decide +kernel))) rfl, wl (pcS _ (List.mem_of_getElem? (i := 28) (by decide +kernel))) rfl, wl (pc1 _ (List.mem_of_getElem? (i := 32) (by decide +kernel))) rfl, wl (pc5 _ (List.mem_of_getElem? (i := 203) (by decide +kernel))) rfl⟩
theorem mk_Jx4a65c_73 : MSk RJx4a65c 73 yJ8_newLength_cabcc cJ8_newLength_cabcc 4 (some .int) := ⟨wl (pc5 _ (List.mem_of_getElem? (i := 204) (by decide +kernel))) rfl, wl (pc3 _ (List.mem_of_getElem? (i := 153) (by decide +kernel))) rfl, wl (pc1 _ (List.mem_of_getElem? (i := 21) (by decide +kernel))) rfl, wl (pc3 _ (List.mem_of_getElem? (i := 154) (by decide +kernel))) rfl⟩
theorem mk_Jx4a65c_118 : MSk RJx4a65c 118 yJ15_checkIndex_7cf53 cJ15_checkIndex_7cf53 2 (some .int) := ⟨wl (pc6 _ (List.mem_of_getElem? (i := 71) (by decide +kernel))) rfl, wl (pc6 _ (List.mem_of_getElem? (i := 72) (by decide +kernel))) rfl, wl (pc1 _ (List.mem_of_getElem? (i := 34) (by decide +kernel))) rfl, wl (pc6 _ (List.mem_of_getElem? (i := 73) (by decide +kernel))) rfl⟩
theorem mk_Jx4a65c_123 : MVk RJx4a65c 123 RJx4a65c yJx4a65c_elementData_915e3 cJx4a65c_elementData_915e3 2 (some (.object "java/lang/Object")) := ⟨wl (pc6 _ (List.mem_of_getElem? (i := 75) (by decide +kernel))) rfl, wl (pc6 _ (List.mem_of_getElem? (i := 76) (by decide +kernel))) rfl, wl (pc6 _ (List.mem_of_getElem? (i := 77) (by decide +kernel))) rfl, wl (pc1 _ (List.mem_of_getElem? (i := 32) (by decide +kernel))) rfl, wl (pc6 _ (List.mem_of_getElem? (i := 78) (by decide +kernel))) rfl⟩
theorem mk_Jx4a65c_129 : MVk RJx4a65c 129 RJx4a65c yJx4a65c_grow_d5877 cJx4a65c_grow_d5877 1 (some (.array (.object "java/lang/Object"))) := ⟨wl (pc5 _ (List.mem_of_getElem? (i := 196) (by decide +kernel))) rfl, wl (pc5 _ (List.mem_of_getElem? (i := 198) (by decide +kernel))) rfl, wl (pcS _ (List.mem_of_getElem? (i := 27) (by decide +kernel))) rfl, wl (pc1 _ (List.mem_of_getElem? (i := 32) (by decide +kernel))) rfl, wl (pc5 _ (List.mem_of_getElem? (i := 199) (by decide +kernel))) rfl⟩
theorem mk_Jx4a65c_131 : MVk RJx4a65c 131 RJx4a65c yJx4a65c_add_72be8 cJx4a65c_add_72be8 4 none := ⟨wl (pc5 _ (List.mem_of_getElem? (i := 192) (by decide +kernel))) rfl, wl (pc5 _ (List.mem_of_getElem? (i := 194) (by decide +kernel))) rfl, wl (pcS _ (List.mem_of_getElem? (i := 26) (by decide +kernel))) rfl, wl (pc1 _ (List.mem_of_getElem? (i := 32) (by decide +kernel))) rfl, wl (pc5 _ (List.mem_of_getElem? (i := 195) (by decide +kernel))) rfl⟩
theorem mk_Jx4a65c_144 : MVk RJx4a65c 144 RJx4a65c yJx4a65c_fastRemove_b59b0 cJx4a65c_fastRemove_b59b0 4 none := ⟨wl (pc6 _ (List.mem_of_getElem? (i := 83) (by decide +kernel))) rfl, wl (pc6 _ (List.mem_of_getElem? (i := 85) (by decide +kernel))) rfl, wl (pcS _ (List.mem_of_getElem? (i := 34) (by decide +kernel))) rfl, wl (pc1 _ (List.mem_of_getElem? (i := 32) (by decide +kernel))) rfl, wl (pc6 _ (List.mem_of_getElem? (i := 86) (by decide +kernel))) rfl⟩
theorem mk_Jxc12de_1 : MIk RJxc12de 1 yJxa1e45_init_da8c8 cJxa1e45_init_da8c8 1 none := ⟨wl (pc5 _ (List.mem_of_getElem? (i := 170) (by decide +kernel))) rfl, wl (pc5 _ (List.mem_of_getElem? (i := 171) (by decide +kernel))) rfl, wl (pc1 _ (List.mem_of_getElem? (i := 30) (by decide +kernel))) rfl, wl (pc5 _ (List.mem_of_getElem? (i := 172) (by decide +kernel))) rfl⟩
theorem mk_L_10 : MVk RL 10 RX12 yX12_holds cX12_holds 23 (some .boolean) := ⟨wl (pc1 _ (List.mem_of_getElem? (i := 62) (by decide +kernel))) rfl, wl (pc1 _ (List.mem_of_getElem? (i := 63) (by decide +kernel))) rfl, wl (pc1 _ (List.mem_of_getElem? (i := 64) (by decide +kernel))) rfl, wl (pc1 _ (List.mem_of_getElem? (i := 1) (by decide +kernel))) rfl, wl (pc1 _ (List.mem_of_getElem? (i := 65) rfl)) rfl⟩
theorem mk_X0_21 : MVk RX0 21 RX8 yX8_at cX8_at 2 (some .int) := ⟨wl (pc6 _ (List.mem_of_getElem? (i := 30) (by decide +kernel))) rfl, wl (pc2 _ (List.mem_of_getElem? (i := 191) (by decide +kernel))) rfl, wl (pc2 _ (List.mem_of_getElem? (i := 192) (by decide +kernel))) rfl, wl (pc1 _ (List.mem_of_getElem? (i := 3) (by decide +kernel))) rfl, wl (pc2 _ (List.mem_of_getElem? (i := 193) (by decide +kernel))) rfl⟩
theorem mk_X0_25 : MVk RX0 25 RX8 yX8_digitAt cX8_digitAt 3 (some .boolean) := ⟨wl (pc6 _ (List.mem_of_getElem? (i := 31) (by decide +kernel))) rfl, wl (pc4 _ (List.mem_of_getElem? (i := 90) (by decide +kernel))) rfl, wl (pc4 _ (List.mem_of_getElem? (i := 91) (by decide +kernel))) rfl, wl (pc1 _ (List.mem_of_getElem? (i := 3) (by decide +kernel))) rfl, wl (pc4 _ (List.mem_of_getElem? (i := 92) (by decide +kernel))) rfl⟩
theorem mk_X0_29 : MSk RX0 29 yX0_most cX0_most 1 (some .int) := ⟨wl (pc6 _ (List.mem_of_getElem? (i := 32) (by decide +kernel))) rfl, wl (pc6 _ (List.mem_of_getElem? (i := 33) (by decide +kernel))) rfl, wl (pc1 _ (List.mem_of_getElem? (i := 33) (by decide +kernel))) rfl, wl (pc6 _ (List.mem_of_getElem? (i := 34) (by decide +kernel))) rfl⟩
theorem mk_X0_34 : MSk RX0 34 yX0_least cX0_least 1 (some .int) := ⟨wl (pc6 _ (List.mem_of_getElem? (i := 35) (by decide +kernel))) rfl, wl (pc6 _ (List.mem_of_getElem? (i := 36) (by decide +kernel))) rfl, wl (pc1 _ (List.mem_of_getElem? (i := 33) (by decide +kernel))) rfl, wl (pc6 _ (List.mem_of_getElem? (i := 37) (by decide +kernel))) rfl⟩
theorem mk_X10_31 : MIk RX10 31 yX9_init cX9_init 4 none := ⟨wl (pc1 _ (List.mem_of_getElem? (i := 161) (by decide +kernel))) rfl, wl (pc1 _ (List.mem_of_getElem? (i := 162) (by decide +kernel))) rfl, wl (pc1 _ (List.mem_of_getElem? (i := 5) (by decide +kernel))) rfl, wl (pc1 _ (List.mem_of_getElem? (i := 163) (by decide +kernel))) rfl⟩
theorem mk_X10_70 : MIk RX10 70 yX4_init cX4_init 2 none := ⟨wl (pc2 _ (List.mem_of_getElem? (i := 2) (by decide +kernel))) rfl, wl (pc2 _ (List.mem_of_getElem? (i := 3) (by decide +kernel))) rfl, wl (pc1 _ (List.mem_of_getElem? (i := 9) (by decide +kernel))) rfl, wl (pc2 _ (List.mem_of_getElem? (i := 4) (by decide +kernel))) rfl⟩
theorem mk_X10_85 : MIk RX10 85 yX6_init cX6_init 2 none := ⟨wl (pc2 _ (List.mem_of_getElem? (i := 22) (by decide +kernel))) rfl, wl (pc2 _ (List.mem_of_getElem? (i := 23) (by decide +kernel))) rfl, wl (pc1 _ (List.mem_of_getElem? (i := 10) (by decide +kernel))) rfl, wl (pc2 _ (List.mem_of_getElem? (i := 24) (by decide +kernel))) rfl⟩
theorem mk_X10_100 : MVk RX10 100 RX8 yX8_add cX8_add 2 none := ⟨wl (pc2 _ (List.mem_of_getElem? (i := 171) (by decide +kernel))) rfl, wl (pc2 _ (List.mem_of_getElem? (i := 172) (by decide +kernel))) rfl, wl (pc2 _ (List.mem_of_getElem? (i := 173) (by decide +kernel))) rfl, wl (pc1 _ (List.mem_of_getElem? (i := 3) (by decide +kernel))) rfl, wl (pc2 _ (List.mem_of_getElem? (i := 174) (by decide +kernel))) rfl⟩
theorem mk_X10_104 : MVk RX10 104 RX10 yX10_enrol cX10_enrol 4 (some .int) := ⟨wl (pc4 _ (List.mem_of_getElem? (i := 67) (by decide +kernel))) rfl, wl (pc4 _ (List.mem_of_getElem? (i := 69) (by decide +kernel))) rfl, wl (pcS _ (List.mem_of_getElem? (i := 11) (by decide +kernel))) rfl, wl (pc1 _ (List.mem_of_getElem? (i := 2) (by decide +kernel))) rfl, wl (pc4 _ (List.mem_of_getElem? (i := 70) (by decide +kernel))) rfl⟩
theorem mk_X10_108 : MVk RX10 108 RX5 yX5_faultIn cX5_faultIn 4 (some .int) := ⟨wl (pc4 _ (List.mem_of_getElem? (i := 71) (by decide +kernel))) rfl, wl (pc4 _ (List.mem_of_getElem? (i := 72) (by decide +kernel))) rfl, wl (pc4 _ (List.mem_of_getElem? (i := 73) (by decide +kernel))) rfl, wl (pc1 _ (List.mem_of_getElem? (i := 6) (by decide +kernel))) rfl, wl (pc4 _ (List.mem_of_getElem? (i := 74) (by decide +kernel))) rfl⟩
theorem mk_X10_112 : MVk RX10 112 RX5 yX5_admit cX5_admit 4 (some .int) := ⟨wl (pc4 _ (List.mem_of_getElem? (i := 81) (by decide +kernel))) rfl, wl (pc4 _ (List.mem_of_getElem? (i := 82) (by decide +kernel))) rfl, wl (pc4 _ (List.mem_of_getElem? (i := 83) (by decide +kernel))) rfl, wl (pc1 _ (List.mem_of_getElem? (i := 6) (by decide +kernel))) rfl, wl (pc4 _ (List.mem_of_getElem? (i := 84) (by decide +kernel))) rfl⟩
theorem mk_X10_115 : MVk RX10 115 RX4 yX4_clear cX4_clear 1 none := ⟨wl (pc4 _ (List.mem_of_getElem? (i := 94) (by decide +kernel))) rfl, wl (pc4 _ (List.mem_of_getElem? (i := 95) (by decide +kernel))) rfl, wl (pc4 _ (List.mem_of_getElem? (i := 96) (by decide +kernel))) rfl, wl (pc1 _ (List.mem_of_getElem? (i := 9) (by decide +kernel))) rfl, wl (pc4 _ (List.mem_of_getElem? (i := 97) (by decide +kernel))) rfl⟩
theorem mk_X10_118 : MVk RX10 118 RX2 yX2_read cX2_read 6 (some .int) := ⟨wl (pc2 _ (List.mem_of_getElem? (i := 183) (by decide +kernel))) rfl, wl (pc2 _ (List.mem_of_getElem? (i := 184) (by decide +kernel))) rfl, wl (pc2 _ (List.mem_of_getElem? (i := 185) (by decide +kernel))) rfl, wl (pc1 _ (List.mem_of_getElem? (i := 7) (by decide +kernel))) rfl, wl (pc2 _ (List.mem_of_getElem? (i := 186) (by decide +kernel))) rfl⟩
theorem mk_X10_121 : MVk RX10 121 RX5 yX5_has cX5_has 2 (some .boolean) := ⟨wl (pc4 _ (List.mem_of_getElem? (i := 104) (by decide +kernel))) rfl, wl (pc4 _ (List.mem_of_getElem? (i := 105) (by decide +kernel))) rfl, wl (pc4 _ (List.mem_of_getElem? (i := 106) (by decide +kernel))) rfl, wl (pc1 _ (List.mem_of_getElem? (i := 6) (by decide +kernel))) rfl, wl (pc4 _ (List.mem_of_getElem? (i := 107) (by decide +kernel))) rfl⟩
theorem mk_X10_128 : MVk RX10 128 RX5 yX5_firstOf cX5_firstOf 2 (some .int) := ⟨wl (pc5 _ (List.mem_of_getElem? (i := 129) (by decide +kernel))) rfl, wl (pc4 _ (List.mem_of_getElem? (i := 191) (by decide +kernel))) rfl, wl (pc4 _ (List.mem_of_getElem? (i := 192) (by decide +kernel))) rfl, wl (pc1 _ (List.mem_of_getElem? (i := 6) (by decide +kernel))) rfl, wl (pc4 _ (List.mem_of_getElem? (i := 193) (by decide +kernel))) rfl⟩
theorem mk_X10_132 : MVk RX10 132 RX5 yX5_secondOf cX5_secondOf 2 (some .int) := ⟨wl (pc5 _ (List.mem_of_getElem? (i := 130) (by decide +kernel))) rfl, wl (pc4 _ (List.mem_of_getElem? (i := 223) (by decide +kernel))) rfl, wl (pc4 _ (List.mem_of_getElem? (i := 224) (by decide +kernel))) rfl, wl (pc1 _ (List.mem_of_getElem? (i := 6) (by decide +kernel))) rfl, wl (pc4 _ (List.mem_of_getElem? (i := 225) (by decide +kernel))) rfl⟩
theorem mk_X10_135 : MVk RX10 135 RX1 yX1_tiredOf cX1_tiredOf 2 (some .int) := ⟨wl (pc5 _ (List.mem_of_getElem? (i := 131) (by decide +kernel))) rfl, wl (pc4 _ (List.mem_of_getElem? (i := 196) (by decide +kernel))) rfl, wl (pc4 _ (List.mem_of_getElem? (i := 197) (by decide +kernel))) rfl, wl (pc1 _ (List.mem_of_getElem? (i := 8) (by decide +kernel))) rfl, wl (pc4 _ (List.mem_of_getElem? (i := 198) (by decide +kernel))) rfl⟩
theorem mk_X10_138 : MVk RX10 138 RX1 yX1_holds cX1_holds 2 (some .boolean) := ⟨wl (pc4 _ (List.mem_of_getElem? (i := 141) (by decide +kernel))) rfl, wl (pc4 _ (List.mem_of_getElem? (i := 142) (by decide +kernel))) rfl, wl (pc4 _ (List.mem_of_getElem? (i := 143) (by decide +kernel))) rfl, wl (pc1 _ (List.mem_of_getElem? (i := 8) (by decide +kernel))) rfl, wl (pc4 _ (List.mem_of_getElem? (i := 144) (by decide +kernel))) rfl⟩
theorem mk_X10_141 : MVk RX10 141 RX9 yX9_volume cX9_volume 6 (some .int) := ⟨wl (pc5 _ (List.mem_of_getElem? (i := 132) (by decide +kernel))) rfl, wl (pc4 _ (List.mem_of_getElem? (i := 187) (by decide +kernel))) rfl, wl (pc4 _ (List.mem_of_getElem? (i := 188) (by decide +kernel))) rfl, wl (pc1 _ (List.mem_of_getElem? (i := 5) (by decide +kernel))) rfl, wl (pc4 _ (List.mem_of_getElem? (i := 189) (by decide +kernel))) rfl⟩
theorem mk_X10_160 : MSk RX10 160 yX10_entry cX10_entry 3 (some .int) := ⟨wl (pc4 _ (List.mem_of_getElem? (i := 108) (by decide +kernel))) rfl, wl (pc4 _ (List.mem_of_getElem? (i := 109) (by decide +kernel))) rfl, wl (pc1 _ (List.mem_of_getElem? (i := 2) (by decide +kernel))) rfl, wl (pc4 _ (List.mem_of_getElem? (i := 110) (by decide +kernel))) rfl⟩
theorem mk_X10_164 : MVk RX10 164 RX1 yX1_tire cX1_tire 3 none := ⟨wl (pc4 _ (List.mem_of_getElem? (i := 113) (by decide +kernel))) rfl, wl (pc4 _ (List.mem_of_getElem? (i := 114) (by decide +kernel))) rfl, wl (pc4 _ (List.mem_of_getElem? (i := 115) (by decide +kernel))) rfl, wl (pc1 _ (List.mem_of_getElem? (i := 8) (by decide +kernel))) rfl, wl (pc4 _ (List.mem_of_getElem? (i := 116) (by decide +kernel))) rfl⟩
theorem mk_X10_168 : MVk RX10 168 RX1 yX1_tiredTogether cX1_tiredTogether 3 (some .int) := ⟨wl (pc4 _ (List.mem_of_getElem? (i := 117) (by decide +kernel))) rfl, wl (pc4 _ (List.mem_of_getElem? (i := 118) (by decide +kernel))) rfl, wl (pc4 _ (List.mem_of_getElem? (i := 119) (by decide +kernel))) rfl, wl (pc1 _ (List.mem_of_getElem? (i := 8) (by decide +kernel))) rfl, wl (pc4 _ (List.mem_of_getElem? (i := 120) (by decide +kernel))) rfl⟩
theorem mk_X10_180 : MVk RX10 180 RX1 yX1_copy cX1_copy 3 none := ⟨wl (pc4 _ (List.mem_of_getElem? (i := 133) (by decide +kernel))) rfl, wl (pc4 _ (List.mem_of_getElem? (i := 134) (by decide +kernel))) rfl, wl (pc4 _ (List.mem_of_getElem? (i := 135) (by decide +kernel))) rfl, wl (pc1 _ (List.mem_of_getElem? (i := 8) (by decide +kernel))) rfl, wl (pc4 _ (List.mem_of_getElem? (i := 136) (by decide +kernel))) rfl⟩
theorem mk_X10_184 : MVk RX10 184 RX10 yX10_grasp cX10_grasp 2 (some .int) := ⟨wl (pc4 _ (List.mem_of_getElem? (i := 137) (by decide +kernel))) rfl, wl (pc4 _ (List.mem_of_getElem? (i := 139) (by decide +kernel))) rfl, wl (pcS _ (List.mem_of_getElem? (i := 13) (by decide +kernel))) rfl, wl (pc1 _ (List.mem_of_getElem? (i := 2) (by decide +kernel))) rfl, wl (pc4 _ (List.mem_of_getElem? (i := 140) (by decide +kernel))) rfl⟩
theorem mk_X10_187 : MVk RX10 187 RX10 yX10_remembered cX10_remembered 2 (some .int) := ⟨wl (pc4 _ (List.mem_of_getElem? (i := 151) (by decide +kernel))) rfl, wl (pc4 _ (List.mem_of_getElem? (i := 153) (by decide +kernel))) rfl, wl (pcS _ (List.mem_of_getElem? (i := 14) (by decide +kernel))) rfl, wl (pc1 _ (List.mem_of_getElem? (i := 2) (by decide +kernel))) rfl, wl (pc4 _ (List.mem_of_getElem? (i := 154) (by decide +kernel))) rfl⟩
theorem mk_X10_190 : MVk RX10 190 RX10 yX10_letGo cX10_letGo 2 (some .int) := ⟨wl (pc6 _ (List.mem_of_getElem? (i := 5) (by decide +kernel))) rfl, wl (pc6 _ (List.mem_of_getElem? (i := 7) (by decide +kernel))) rfl, wl (pcS _ (List.mem_of_getElem? (i := 30) (by decide +kernel))) rfl, wl (pc1 _ (List.mem_of_getElem? (i := 2) (by decide +kernel))) rfl, wl (pc6 _ (List.mem_of_getElem? (i := 8) (by decide +kernel))) rfl⟩
theorem mk_X10_193 : MVk RX10 193 RX10 yX10_splice cX10_splice 2 (some .int) := ⟨wl (pc6 _ (List.mem_of_getElem? (i := 13) (by decide +kernel))) rfl, wl (pc6 _ (List.mem_of_getElem? (i := 15) (by decide +kernel))) rfl, wl (pcS _ (List.mem_of_getElem? (i := 31) (by decide +kernel))) rfl, wl (pc1 _ (List.mem_of_getElem? (i := 2) (by decide +kernel))) rfl, wl (pc6 _ (List.mem_of_getElem? (i := 16) (by decide +kernel))) rfl⟩
theorem mk_X10_196 : MVk RX10 196 RX10 yX10_pass cX10_pass 4 (some .int) := ⟨wl (pc4 _ (List.mem_of_getElem? (i := 174) (by decide +kernel))) rfl, wl (pc4 _ (List.mem_of_getElem? (i := 176) (by decide +kernel))) rfl, wl (pcS _ (List.mem_of_getElem? (i := 16) (by decide +kernel))) rfl, wl (pc1 _ (List.mem_of_getElem? (i := 2) (by decide +kernel))) rfl, wl (pc4 _ (List.mem_of_getElem? (i := 177) (by decide +kernel))) rfl⟩
theorem mk_X10_202 : MVk RX10 202 RX10 yX10_tell cX10_tell 5 none := ⟨wl (pc4 _ (List.mem_of_getElem? (i := 236) (by decide +kernel))) rfl, wl (pc4 _ (List.mem_of_getElem? (i := 238) (by decide +kernel))) rfl, wl (pcS _ (List.mem_of_getElem? (i := 18) (by decide +kernel))) rfl, wl (pc1 _ (List.mem_of_getElem? (i := 2) (by decide +kernel))) rfl, wl (pc4 _ (List.mem_of_getElem? (i := 239) (by decide +kernel))) rfl⟩
theorem mk_X10_206 : MSk RX10 206 yX0_faultIn cX0_faultIn 7 (some .int) := ⟨wl (pc6 _ (List.mem_of_getElem? (i := 26) (by decide +kernel))) rfl, wl (pc6 _ (List.mem_of_getElem? (i := 27) (by decide +kernel))) rfl, wl (pc1 _ (List.mem_of_getElem? (i := 33) (by decide +kernel))) rfl, wl (pc6 _ (List.mem_of_getElem? (i := 28) (by decide +kernel))) rfl⟩
theorem mk_X10_209 : MSk RX10 209 yX0_beginsAt cX0_beginsAt 2 (some .boolean) := ⟨wl (pc6 _ (List.mem_of_getElem? (i := 38) (by decide +kernel))) rfl, wl (pc6 _ (List.mem_of_getElem? (i := 39) (by decide +kernel))) rfl, wl (pc1 _ (List.mem_of_getElem? (i := 33) (by decide +kernel))) rfl, wl (pc6 _ (List.mem_of_getElem? (i := 40) (by decide +kernel))) rfl⟩
theorem mk_X10_213 : MVk RX10 213 RX10 yX10_act cX10_act 2 (some .int) := ⟨wl (pc6 _ (List.mem_of_getElem? (i := 41) (by decide +kernel))) rfl, wl (pc6 _ (List.mem_of_getElem? (i := 43) (by decide +kernel))) rfl, wl (pcS _ (List.mem_of_getElem? (i := 32) (by decide +kernel))) rfl, wl (pc1 _ (List.mem_of_getElem? (i := 2) (by decide +kernel))) rfl, wl (pc6 _ (List.mem_of_getElem? (i := 44) (by decide +kernel))) rfl⟩
theorem mk_X10_216 : MVk RX10 216 RX4 yX4_push cX4_push 2 none := ⟨wl (pc4 _ (List.mem_of_getElem? (i := 155) (by decide +kernel))) rfl, wl (pc4 _ (List.mem_of_getElem? (i := 156) (by decide +kernel))) rfl, wl (pc4 _ (List.mem_of_getElem? (i := 157) (by decide +kernel))) rfl, wl (pc1 _ (List.mem_of_getElem? (i := 9) (by decide +kernel))) rfl, wl (pc4 _ (List.mem_of_getElem? (i := 158) (by decide +kernel))) rfl⟩
theorem mk_X10_219 : MVk RX10 219 RX8 yX8_at cX8_at 2 (some .int) := ⟨wl (pc6 _ (List.mem_of_getElem? (i := 45) (by decide +kernel))) rfl, wl (pc2 _ (List.mem_of_getElem? (i := 191) (by decide +kernel))) rfl, wl (pc2 _ (List.mem_of_getElem? (i := 192) (by decide +kernel))) rfl, wl (pc1 _ (List.mem_of_getElem? (i := 3) (by decide +kernel))) rfl, wl (pc2 _ (List.mem_of_getElem? (i := 193) (by decide +kernel))) rfl⟩
theorem mk_X10_222 : MVk RX10 222 RX8 yX8_number cX8_number 5 (some .int) := ⟨wl (pc6 _ (List.mem_of_getElem? (i := 46) (by decide +kernel))) rfl, wl (pc4 _ (List.mem_of_getElem? (i := 86) (by decide +kernel))) rfl, wl (pc4 _ (List.mem_of_getElem? (i := 87) (by decide +kernel))) rfl, wl (pc1 _ (List.mem_of_getElem? (i := 3) (by decide +kernel))) rfl, wl (pc4 _ (List.mem_of_getElem? (i := 88) (by decide +kernel))) rfl⟩
theorem mk_X10_225 : MVk RX10 225 RX10 yX10_relieve cX10_relieve 5 (some .int) := ⟨wl (pc6 _ (List.mem_of_getElem? (i := 47) (by decide +kernel))) rfl, wl (pc6 _ (List.mem_of_getElem? (i := 49) (by decide +kernel))) rfl, wl (pcS _ (List.mem_of_getElem? (i := 33) (by decide +kernel))) rfl, wl (pc1 _ (List.mem_of_getElem? (i := 2) (by decide +kernel))) rfl, wl (pc6 _ (List.mem_of_getElem? (i := 50) (by decide +kernel))) rfl⟩
theorem mk_X10_228 : MSk RX10 228 yJ6_bitCount_0f7a4 cJ6_bitCount_0f7a4 1 (some .int) := ⟨wl (pc4 _ (List.mem_of_getElem? (i := 145) (by decide +kernel))) rfl, wl (pc4 _ (List.mem_of_getElem? (i := 146) (by decide +kernel))) rfl, wl (pc1 _ (List.mem_of_getElem? (i := 25) (by decide +kernel))) rfl, wl (pc4 _ (List.mem_of_getElem? (i := 147) (by decide +kernel))) rfl⟩
theorem mk_X10_239 : MVk RX10 239 RX9 yX9_minute cX9_minute 2 none := ⟨wl (pc4 _ (List.mem_of_getElem? (i := 178) (by decide +kernel))) rfl, wl (pc4 _ (List.mem_of_getElem? (i := 179) (by decide +kernel))) rfl, wl (pc4 _ (List.mem_of_getElem? (i := 180) (by decide +kernel))) rfl, wl (pc1 _ (List.mem_of_getElem? (i := 5) (by decide +kernel))) rfl, wl (pc4 _ (List.mem_of_getElem? (i := 181) (by decide +kernel))) rfl⟩
theorem mk_X10_242 : MVk RX10 242 RX4 yX4_pop cX4_pop 3 (some .int) := ⟨wl (pc6 _ (List.mem_of_getElem? (i := 63) (by decide +kernel))) rfl, wl (pc6 _ (List.mem_of_getElem? (i := 64) (by decide +kernel))) rfl, wl (pc6 _ (List.mem_of_getElem? (i := 65) (by decide +kernel))) rfl, wl (pc1 _ (List.mem_of_getElem? (i := 9) (by decide +kernel))) rfl, wl (pc6 _ (List.mem_of_getElem? (i := 66) (by decide +kernel))) rfl⟩
theorem mk_X10_289 : MVk RX10 289 RX7 yX7_clear cX7_clear 1 none := ⟨wl (pc5 _ (List.mem_of_getElem? (i := 0) (by decide +kernel))) rfl, wl (pc5 _ (List.mem_of_getElem? (i := 1) (by decide +kernel))) rfl, wl (pc5 _ (List.mem_of_getElem? (i := 2) (by decide +kernel))) rfl, wl (pc1 _ (List.mem_of_getElem? (i := 4) (by decide +kernel))) rfl, wl (pc5 _ (List.mem_of_getElem? (i := 3) (by decide +kernel))) rfl⟩
theorem mk_X10_293 : MVk RX10 293 RX7 yX7_add cX7_add 3 none := ⟨wl (pc5 _ (List.mem_of_getElem? (i := 4) (by decide +kernel))) rfl, wl (pc5 _ (List.mem_of_getElem? (i := 5) (by decide +kernel))) rfl, wl (pc5 _ (List.mem_of_getElem? (i := 6) (by decide +kernel))) rfl, wl (pc1 _ (List.mem_of_getElem? (i := 4) (by decide +kernel))) rfl, wl (pc5 _ (List.mem_of_getElem? (i := 7) (by decide +kernel))) rfl⟩
theorem mk_X10_360 : MVk RX10 360 RX10 yX10_countFurther cX10_countFurther 2 (some .int) := ⟨wl (pc5 _ (List.mem_of_getElem? (i := 40) (by decide +kernel))) rfl, wl (pc5 _ (List.mem_of_getElem? (i := 42) (by decide +kernel))) rfl, wl (pcS _ (List.mem_of_getElem? (i := 23) (by decide +kernel))) rfl, wl (pc1 _ (List.mem_of_getElem? (i := 2) (by decide +kernel))) rfl, wl (pc5 _ (List.mem_of_getElem? (i := 43) (by decide +kernel))) rfl⟩
theorem mk_X10_365 : MVk RX10 365 RX7 yX7_at cX7_at 2 (some .long) := ⟨wl (pc5 _ (List.mem_of_getElem? (i := 113) (by decide +kernel))) rfl, wl (pc5 _ (List.mem_of_getElem? (i := 114) (by decide +kernel))) rfl, wl (pc5 _ (List.mem_of_getElem? (i := 115) (by decide +kernel))) rfl, wl (pc1 _ (List.mem_of_getElem? (i := 4) (by decide +kernel))) rfl, wl (pc5 _ (List.mem_of_getElem? (i := 116) (by decide +kernel))) rfl⟩
theorem mk_X11_13 : MIk RX11 13 yX11_init cX11_init 1 none := ⟨wl (pc5 _ (List.mem_of_getElem? (i := 143) (by decide +kernel))) rfl, wl (pc3 _ (List.mem_of_getElem? (i := 60) (by decide +kernel))) rfl, wl (pc1 _ (List.mem_of_getElem? (i := 18) (by decide +kernel))) rfl, wl (pc3 _ (List.mem_of_getElem? (i := 61) (by decide +kernel))) rfl⟩
theorem mk_X11_47 : MVk RX11 47 RX11 yX11_copy cX11_copy 2 (some (.object "MustNotStopLaw$Bench$State")) := ⟨wl (pc5 _ (List.mem_of_getElem? (i := 138) (by decide +kernel))) rfl, wl (pc5 _ (List.mem_of_getElem? (i := 139) (by decide +kernel))) rfl, wl (pc5 _ (List.mem_of_getElem? (i := 140) (by decide +kernel))) rfl, wl (pc1 _ (List.mem_of_getElem? (i := 18) (by decide +kernel))) rfl, wl (pc5 _ (List.mem_of_getElem? (i := 141) (by decide +kernel))) rfl⟩
theorem mk_X12_7 : MVk RX12 7 RX10 yX10_row cX10_row 2 (some .long) := ⟨wl (pc5 _ (List.mem_of_getElem? (i := 48) (by decide +kernel))) rfl, wl (pc5 _ (List.mem_of_getElem? (i := 49) (by decide +kernel))) rfl, wl (pc5 _ (List.mem_of_getElem? (i := 50) (by decide +kernel))) rfl, wl (pc1 _ (List.mem_of_getElem? (i := 2) (by decide +kernel))) rfl, wl (pc5 _ (List.mem_of_getElem? (i := 51) (by decide +kernel))) rfl⟩
theorem mk_X12_17 : MVk RX12 17 RX10 yX10_ringer cX10_ringer 3 (some .int) := ⟨wl (pc5 _ (List.mem_of_getElem? (i := 125) (by decide +kernel))) rfl, wl (pc5 _ (List.mem_of_getElem? (i := 126) (by decide +kernel))) rfl, wl (pc5 _ (List.mem_of_getElem? (i := 127) (by decide +kernel))) rfl, wl (pc1 _ (List.mem_of_getElem? (i := 2) (by decide +kernel))) rfl, wl (pc5 _ (List.mem_of_getElem? (i := 128) (by decide +kernel))) rfl⟩
theorem mk_X12_22 : MVk RX12 22 RX10 yX10_person cX10_person 3 (some .int) := ⟨wl (pc5 _ (List.mem_of_getElem? (i := 154) (by decide +kernel))) rfl, wl (pc5 _ (List.mem_of_getElem? (i := 155) (by decide +kernel))) rfl, wl (pc5 _ (List.mem_of_getElem? (i := 156) (by decide +kernel))) rfl, wl (pc1 _ (List.mem_of_getElem? (i := 2) (by decide +kernel))) rfl, wl (pc5 _ (List.mem_of_getElem? (i := 157) (by decide +kernel))) rfl⟩
theorem mk_X12_25 : MVk RX12 25 RJ0 yJ0_length_8abf5 cJ0_length_8abf5 1 (some .int) := ⟨wl (pc2 _ (List.mem_of_getElem? (i := 119) (by decide +kernel))) rfl, wl (pc2 _ (List.mem_of_getElem? (i := 120) (by decide +kernel))) rfl, wl (pc2 _ (List.mem_of_getElem? (i := 121) (by decide +kernel))) rfl, wl (pc1 _ (List.mem_of_getElem? (i := 13) (by decide +kernel))) rfl, wl (pc2 _ (List.mem_of_getElem? (i := 122) (by decide +kernel))) rfl⟩
theorem mk_X12_31 : MVk RX12 31 RJ0 yJ0_charAt_5068e cJ0_charAt_5068e 2 (some .char) := ⟨wl (pc2 _ (List.mem_of_getElem? (i := 129) (by decide +kernel))) rfl, wl (pc2 _ (List.mem_of_getElem? (i := 130) (by decide +kernel))) rfl, wl (pc2 _ (List.mem_of_getElem? (i := 131) (by decide +kernel))) rfl, wl (pc1 _ (List.mem_of_getElem? (i := 13) (by decide +kernel))) rfl, wl (pc2 _ (List.mem_of_getElem? (i := 132) (by decide +kernel))) rfl⟩
theorem mk_X12_35 : MVk RX12 35 RX10 yX10_sign cX10_sign 3 (some .int) := ⟨wl (pc2 _ (List.mem_of_getElem? (i := 167) (by decide +kernel))) rfl, wl (pc2 _ (List.mem_of_getElem? (i := 168) (by decide +kernel))) rfl, wl (pc2 _ (List.mem_of_getElem? (i := 169) (by decide +kernel))) rfl, wl (pc1 _ (List.mem_of_getElem? (i := 2) (by decide +kernel))) rfl, wl (pc2 _ (List.mem_of_getElem? (i := 170) (by decide +kernel))) rfl⟩
theorem mk_X12_39 : MVk RX12 39 RX10 yX10_end cX10_end 2 (some .boolean) := ⟨wl (pc2 _ (List.mem_of_getElem? (i := 175) (by decide +kernel))) rfl, wl (pc2 _ (List.mem_of_getElem? (i := 176) (by decide +kernel))) rfl, wl (pc2 _ (List.mem_of_getElem? (i := 177) (by decide +kernel))) rfl, wl (pc1 _ (List.mem_of_getElem? (i := 2) (by decide +kernel))) rfl, wl (pc2 _ (List.mem_of_getElem? (i := 178) (by decide +kernel))) rfl⟩
theorem mk_X12_43 : MVk RX12 43 RX10 yX10_count cX10_count 2 (some .int) := ⟨wl (pc5 _ (List.mem_of_getElem? (i := 36) (by decide +kernel))) rfl, wl (pc5 _ (List.mem_of_getElem? (i := 37) (by decide +kernel))) rfl, wl (pc5 _ (List.mem_of_getElem? (i := 38) (by decide +kernel))) rfl, wl (pc1 _ (List.mem_of_getElem? (i := 2) (by decide +kernel))) rfl, wl (pc5 _ (List.mem_of_getElem? (i := 39) (by decide +kernel))) rfl⟩
theorem mk_X12_51 : MSk RX12 51 yX12_isRow cX12_isRow 3 (some .boolean) := ⟨wl (pc5 _ (List.mem_of_getElem? (i := 33) (by decide +kernel))) rfl, wl (pc5 _ (List.mem_of_getElem? (i := 34) (by decide +kernel))) rfl, wl (pc1 _ (List.mem_of_getElem? (i := 1) (by decide +kernel))) rfl, wl (pc5 _ (List.mem_of_getElem? (i := 35) (by decide +kernel))) rfl⟩
theorem mk_X12_85 : MVk RX12 85 RX12 yX12_by cX12_by 6 (some .int) := ⟨wl (pc5 _ (List.mem_of_getElem? (i := 20) (by decide +kernel))) rfl, wl (pc5 _ (List.mem_of_getElem? (i := 22) (by decide +kernel))) rfl, wl (pcS _ (List.mem_of_getElem? (i := 22) (by decide +kernel))) rfl, wl (pc1 _ (List.mem_of_getElem? (i := 1) (by decide +kernel))) rfl, wl (pc5 _ (List.mem_of_getElem? (i := 23) (by decide +kernel))) rfl⟩
theorem mk_X12_89 : MVk RX12 89 RX12 yX12_loud cX12_loud 6 (some .int) := ⟨wl (pc5 _ (List.mem_of_getElem? (i := 16) (by decide +kernel))) rfl, wl (pc5 _ (List.mem_of_getElem? (i := 18) (by decide +kernel))) rfl, wl (pcS _ (List.mem_of_getElem? (i := 21) (by decide +kernel))) rfl, wl (pc1 _ (List.mem_of_getElem? (i := 1) (by decide +kernel))) rfl, wl (pc5 _ (List.mem_of_getElem? (i := 19) (by decide +kernel))) rfl⟩
theorem mk_X12_127 : MVk RX12 127 RX12 yX12_minute cX12_minute 9 (some .boolean) := ⟨wl (pc5 _ (List.mem_of_getElem? (i := 12) (by decide +kernel))) rfl, wl (pc5 _ (List.mem_of_getElem? (i := 14) (by decide +kernel))) rfl, wl (pcS _ (List.mem_of_getElem? (i := 20) (by decide +kernel))) rfl, wl (pc1 _ (List.mem_of_getElem? (i := 1) (by decide +kernel))) rfl, wl (pc5 _ (List.mem_of_getElem? (i := 15) (by decide +kernel))) rfl⟩
theorem mk_X12_131 : MVk RX12 131 RX11 yX11_bits cX11_bits 3 (some .int) := ⟨wl (pc4 _ (List.mem_of_getElem? (i := 165) (by decide +kernel))) rfl, wl (pc4 _ (List.mem_of_getElem? (i := 166) (by decide +kernel))) rfl, wl (pc4 _ (List.mem_of_getElem? (i := 167) (by decide +kernel))) rfl, wl (pc1 _ (List.mem_of_getElem? (i := 18) (by decide +kernel))) rfl, wl (pc4 _ (List.mem_of_getElem? (i := 168) (by decide +kernel))) rfl⟩
theorem mk_X12_134 : MSk RX12 134 yJ6_bitCount_0f7a4 cJ6_bitCount_0f7a4 1 (some .int) := ⟨wl (pc4 _ (List.mem_of_getElem? (i := 169) (by decide +kernel))) rfl, wl (pc4 _ (List.mem_of_getElem? (i := 146) (by decide +kernel))) rfl, wl (pc1 _ (List.mem_of_getElem? (i := 25) (by decide +kernel))) rfl, wl (pc4 _ (List.mem_of_getElem? (i := 147) (by decide +kernel))) rfl⟩
theorem mk_X12_139 : MSk RX12 139 yX12_cell cX12_cell 2 (some .int) := ⟨wl (pc2 _ (List.mem_of_getElem? (i := 108) (by decide +kernel))) rfl, wl (pc2 _ (List.mem_of_getElem? (i := 109) (by decide +kernel))) rfl, wl (pc1 _ (List.mem_of_getElem? (i := 1) (by decide +kernel))) rfl, wl (pc2 _ (List.mem_of_getElem? (i := 110) (by decide +kernel))) rfl⟩
theorem mk_X12_143 : MSk RX12 143 yJ9_floorMod_7cf53 cJ9_floorMod_7cf53 3 (some .int) := ⟨wl (pc2 _ (List.mem_of_getElem? (i := 111) (by decide +kernel))) rfl, wl (pc2 _ (List.mem_of_getElem? (i := 112) (by decide +kernel))) rfl, wl (pc1 _ (List.mem_of_getElem? (i := 12) (by decide +kernel))) rfl, wl (pc2 _ (List.mem_of_getElem? (i := 113) (by decide +kernel))) rfl⟩
theorem mk_X12_150 : MSk RX12 150 yX12_text cX12_text 6 (some .boolean) := ⟨wl (pc2 _ (List.mem_of_getElem? (i := 116) (by decide +kernel))) rfl, wl (pc2 _ (List.mem_of_getElem? (i := 117) (by decide +kernel))) rfl, wl (pc1 _ (List.mem_of_getElem? (i := 1) (by decide +kernel))) rfl, wl (pc2 _ (List.mem_of_getElem? (i := 118) (by decide +kernel))) rfl⟩
theorem mk_X12_154 : MVk RX12 154 RX10 yX10_rule cX10_rule 3 (some .int) := ⟨wl (pc2 _ (List.mem_of_getElem? (i := 179) (by decide +kernel))) rfl, wl (pc2 _ (List.mem_of_getElem? (i := 180) (by decide +kernel))) rfl, wl (pc2 _ (List.mem_of_getElem? (i := 181) (by decide +kernel))) rfl, wl (pc1 _ (List.mem_of_getElem? (i := 2) (by decide +kernel))) rfl, wl (pc2 _ (List.mem_of_getElem? (i := 182) (by decide +kernel))) rfl⟩
theorem mk_X12_160 : MIk RX12 160 yJ4_init_da8c8 cJ4_init_da8c8 1 none := ⟨wl (pc3 _ (List.mem_of_getElem? (i := 103) (by decide +kernel))) rfl, wl (pc3 _ (List.mem_of_getElem? (i := 104) (by decide +kernel))) rfl, wl (pc1 _ (List.mem_of_getElem? (i := 20) (by decide +kernel))) rfl, wl (pc3 _ (List.mem_of_getElem? (i := 105) (by decide +kernel))) rfl⟩
theorem mk_X12_163 : MVk RX12 163 RJ4 yJ4_append_15ec4 cJ4_append_15ec4 2 (some (.object "java/lang/StringBuilder")) := ⟨wl (pc3 _ (List.mem_of_getElem? (i := 133) (by decide +kernel))) rfl, wl (pc3 _ (List.mem_of_getElem? (i := 134) (by decide +kernel))) rfl, wl (pc3 _ (List.mem_of_getElem? (i := 135) (by decide +kernel))) rfl, wl (pc1 _ (List.mem_of_getElem? (i := 20) (by decide +kernel))) rfl, wl (pc3 _ (List.mem_of_getElem? (i := 136) (by decide +kernel))) rfl⟩
theorem mk_X12_167 : MVk RX12 167 RJ4 yJ4_append_bf812 cJ4_append_bf812 2 (some (.object "java/lang/StringBuilder")) := ⟨wl (pc3 _ (List.mem_of_getElem? (i := 221) (by decide +kernel))) rfl, wl (pc3 _ (List.mem_of_getElem? (i := 222) (by decide +kernel))) rfl, wl (pc3 _ (List.mem_of_getElem? (i := 223) (by decide +kernel))) rfl, wl (pc1 _ (List.mem_of_getElem? (i := 20) (by decide +kernel))) rfl, wl (pc3 _ (List.mem_of_getElem? (i := 224) (by decide +kernel))) rfl⟩
theorem mk_X12_170 : MVk RX12 170 RJ4 yJ4_toString_0e30d cJ4_toString_0e30d 1 (some (.object "java/lang/String")) := ⟨wl (pc4 _ (List.mem_of_getElem? (i := 6) (by decide +kernel))) rfl, wl (pc4 _ (List.mem_of_getElem? (i := 7) (by decide +kernel))) rfl, wl (pc4 _ (List.mem_of_getElem? (i := 8) (by decide +kernel))) rfl, wl (pc1 _ (List.mem_of_getElem? (i := 20) (by decide +kernel))) rfl, wl (pc4 _ (List.mem_of_getElem? (i := 9) (by decide +kernel))) rfl⟩
theorem mk_X12_174 : MVk RX12 174 RX10 yX10_ringers cX10_ringers 1 (some .int) := ⟨wl (pc4 _ (List.mem_of_getElem? (i := 63) (by decide +kernel))) rfl, wl (pc4 _ (List.mem_of_getElem? (i := 64) (by decide +kernel))) rfl, wl (pc4 _ (List.mem_of_getElem? (i := 65) (by decide +kernel))) rfl, wl (pc1 _ (List.mem_of_getElem? (i := 2) (by decide +kernel))) rfl, wl (pc4 _ (List.mem_of_getElem? (i := 66) (by decide +kernel))) rfl⟩
theorem mk_X12_177 : MVk RX12 177 RX10 yX10_sheet cX10_sheet 8 (some .int) := ⟨wl (pc4 _ (List.mem_of_getElem? (i := 100) (by decide +kernel))) rfl, wl (pc4 _ (List.mem_of_getElem? (i := 101) (by decide +kernel))) rfl, wl (pc4 _ (List.mem_of_getElem? (i := 102) (by decide +kernel))) rfl, wl (pc1 _ (List.mem_of_getElem? (i := 2) (by decide +kernel))) rfl, wl (pc4 _ (List.mem_of_getElem? (i := 103) (by decide +kernel))) rfl⟩
theorem mk_X12_181 : MVk RX12 181 RX10 yX10_town cX10_town 1 (some .int) := ⟨wl (pc4 _ (List.mem_of_getElem? (i := 121) (by decide +kernel))) rfl, wl (pc4 _ (List.mem_of_getElem? (i := 122) (by decide +kernel))) rfl, wl (pc4 _ (List.mem_of_getElem? (i := 123) (by decide +kernel))) rfl, wl (pc1 _ (List.mem_of_getElem? (i := 2) (by decide +kernel))) rfl, wl (pc4 _ (List.mem_of_getElem? (i := 124) (by decide +kernel))) rfl⟩
theorem mk_X12_183 : MVk RX12 183 RX10 yX10_set cX10_set 4 (some .int) := ⟨wl (pc4 _ (List.mem_of_getElem? (i := 125) (by decide +kernel))) rfl, wl (pc4 _ (List.mem_of_getElem? (i := 126) (by decide +kernel))) rfl, wl (pc4 _ (List.mem_of_getElem? (i := 127) (by decide +kernel))) rfl, wl (pc1 _ (List.mem_of_getElem? (i := 2) (by decide +kernel))) rfl, wl (pc4 _ (List.mem_of_getElem? (i := 128) (by decide +kernel))) rfl⟩
theorem mk_X12_186 : MVk RX12 186 RX10 yX10_take cX10_take 2 (some .int) := ⟨wl (pc4 _ (List.mem_of_getElem? (i := 129) (by decide +kernel))) rfl, wl (pc4 _ (List.mem_of_getElem? (i := 130) (by decide +kernel))) rfl, wl (pc4 _ (List.mem_of_getElem? (i := 131) (by decide +kernel))) rfl, wl (pc1 _ (List.mem_of_getElem? (i := 2) (by decide +kernel))) rfl, wl (pc4 _ (List.mem_of_getElem? (i := 132) (by decide +kernel))) rfl⟩
theorem mk_X12_189 : MVk RX12 189 RX12 yX12_take cX12_take 3 (some .int) := ⟨wl (pc4 _ (List.mem_of_getElem? (i := 161) (by decide +kernel))) rfl, wl (pc4 _ (List.mem_of_getElem? (i := 163) (by decide +kernel))) rfl, wl (pcS _ (List.mem_of_getElem? (i := 15) (by decide +kernel))) rfl, wl (pc1 _ (List.mem_of_getElem? (i := 1) (by decide +kernel))) rfl, wl (pc4 _ (List.mem_of_getElem? (i := 164) (by decide +kernel))) rfl⟩
theorem mk_X12_192 : MVk RX12 192 RX10 yX10_minutes cX10_minutes 3 (some .int) := ⟨wl (pc4 _ (List.mem_of_getElem? (i := 170) (by decide +kernel))) rfl, wl (pc4 _ (List.mem_of_getElem? (i := 171) (by decide +kernel))) rfl, wl (pc4 _ (List.mem_of_getElem? (i := 172) (by decide +kernel))) rfl, wl (pc1 _ (List.mem_of_getElem? (i := 2) (by decide +kernel))) rfl, wl (pc4 _ (List.mem_of_getElem? (i := 173) (by decide +kernel))) rfl⟩
theorem mk_X12_195 : MVk RX12 195 RX12 yX12_goes cX12_goes 5 (some .int) := ⟨wl (pc5 _ (List.mem_of_getElem? (i := 8) (by decide +kernel))) rfl, wl (pc5 _ (List.mem_of_getElem? (i := 10) (by decide +kernel))) rfl, wl (pcS _ (List.mem_of_getElem? (i := 19) (by decide +kernel))) rfl, wl (pc1 _ (List.mem_of_getElem? (i := 1) (by decide +kernel))) rfl, wl (pc5 _ (List.mem_of_getElem? (i := 11) (by decide +kernel))) rfl⟩
theorem mk_X12_198 : MVk RX12 198 RX11 yX11_doubt cX11_doubt 3 (some .int) := ⟨wl (pc5 _ (List.mem_of_getElem? (i := 29) (by decide +kernel))) rfl, wl (pc5 _ (List.mem_of_getElem? (i := 30) (by decide +kernel))) rfl, wl (pc5 _ (List.mem_of_getElem? (i := 31) (by decide +kernel))) rfl, wl (pc1 _ (List.mem_of_getElem? (i := 18) (by decide +kernel))) rfl, wl (pc5 _ (List.mem_of_getElem? (i := 32) (by decide +kernel))) rfl⟩
theorem mk_X12_201 : MVk RX12 201 RX12 yX12_isAs cX12_isAs 4 (some .boolean) := ⟨wl (pc5 _ (List.mem_of_getElem? (i := 118) (by decide +kernel))) rfl, wl (pc5 _ (List.mem_of_getElem? (i := 120) (by decide +kernel))) rfl, wl (pcS _ (List.mem_of_getElem? (i := 25) (by decide +kernel))) rfl, wl (pc1 _ (List.mem_of_getElem? (i := 1) (by decide +kernel))) rfl, wl (pc5 _ (List.mem_of_getElem? (i := 121) (by decide +kernel))) rfl⟩
theorem mk_X12_208 : MVk RX12 208 RX11 yX11_only cX11_only 4 (some (.object "MustNotStopLaw$Bench$State")) := ⟨wl (pc5 _ (List.mem_of_getElem? (i := 134) (by decide +kernel))) rfl, wl (pc5 _ (List.mem_of_getElem? (i := 135) (by decide +kernel))) rfl, wl (pc5 _ (List.mem_of_getElem? (i := 136) (by decide +kernel))) rfl, wl (pc1 _ (List.mem_of_getElem? (i := 18) (by decide +kernel))) rfl, wl (pc5 _ (List.mem_of_getElem? (i := 137) (by decide +kernel))) rfl⟩
theorem mk_X12_214 : MVk RX12 214 RX10 yX10_loud cX10_loud 1 (some .int) := ⟨wl (pc5 _ (List.mem_of_getElem? (i := 158) (by decide +kernel))) rfl, wl (pc5 _ (List.mem_of_getElem? (i := 159) (by decide +kernel))) rfl, wl (pc5 _ (List.mem_of_getElem? (i := 160) (by decide +kernel))) rfl, wl (pc1 _ (List.mem_of_getElem? (i := 2) (by decide +kernel))) rfl, wl (pc5 _ (List.mem_of_getElem? (i := 161) (by decide +kernel))) rfl⟩
theorem mk_X12_216 : MIk RX12 216 yX10_init cX10_init 2 none := ⟨wl (pc1 _ (List.mem_of_getElem? (i := 68) (by decide +kernel))) rfl, wl (pc1 _ (List.mem_of_getElem? (i := 69) (by decide +kernel))) rfl, wl (pc1 _ (List.mem_of_getElem? (i := 2) (by decide +kernel))) rfl, wl (pc1 _ (List.mem_of_getElem? (i := 70) (by decide +kernel))) rfl⟩
theorem mk_X12_217 : MVk RX12 217 RX12 yX12_build cX12_build 14 (some (.object "MustNotStopLaw$Bench$State")) := ⟨wl (pc2 _ (List.mem_of_getElem? (i := 104) (by decide +kernel))) rfl, wl (pc2 _ (List.mem_of_getElem? (i := 106) (by decide +kernel))) rfl, wl (pcS _ (List.mem_of_getElem? (i := 0) (by decide +kernel))) rfl, wl (pc1 _ (List.mem_of_getElem? (i := 1) (by decide +kernel))) rfl, wl (pc2 _ (List.mem_of_getElem? (i := 107) rfl)) rfl⟩
theorem mk_X12_223 : MIk RX12 223 yJx4a65c_init_da8c8 cJx4a65c_init_da8c8 1 none := ⟨wl (pc5 _ (List.mem_of_getElem? (i := 164) (by decide +kernel))) rfl, wl (pc5 _ (List.mem_of_getElem? (i := 165) (by decide +kernel))) rfl, wl (pc1 _ (List.mem_of_getElem? (i := 32) (by decide +kernel))) rfl, wl (pc5 _ (List.mem_of_getElem? (i := 166) (by decide +kernel))) rfl⟩
theorem mk_X12_224 : MVk RX12 224 RJx4a65c yJx4a65c_add_9ea2d cJx4a65c_add_9ea2d 2 (some .boolean) := ⟨wl (pc5 _ (List.mem_of_getElem? (i := 188) (by decide +kernel))) rfl, wl (pc5 _ (List.mem_of_getElem? (i := 189) (by decide +kernel))) rfl, wl (pc5 _ (List.mem_of_getElem? (i := 190) (by decide +kernel))) rfl, wl (pc1 _ (List.mem_of_getElem? (i := 32) (by decide +kernel))) rfl, wl (pc5 _ (List.mem_of_getElem? (i := 191) (by decide +kernel))) rfl⟩
theorem mk_X12_228 : MVk RX12 228 RX11 yX11_copy cX11_copy 2 (some (.object "MustNotStopLaw$Bench$State")) := ⟨wl (pc5 _ (List.mem_of_getElem? (i := 236) (by decide +kernel))) rfl, wl (pc5 _ (List.mem_of_getElem? (i := 139) (by decide +kernel))) rfl, wl (pc5 _ (List.mem_of_getElem? (i := 140) (by decide +kernel))) rfl, wl (pc1 _ (List.mem_of_getElem? (i := 18) (by decide +kernel))) rfl, wl (pc5 _ (List.mem_of_getElem? (i := 141) (by decide +kernel))) rfl⟩
theorem mk_X12_232 : MVk RX12 232 RX12 yX12_leave cX12_leave 3 (some .int) := ⟨wl (pc5 _ (List.mem_of_getElem? (i := 237) (by decide +kernel))) rfl, wl (pc5 _ (List.mem_of_getElem? (i := 239) (by decide +kernel))) rfl, wl (pcS _ (List.mem_of_getElem? (i := 29) (by decide +kernel))) rfl, wl (pc1 _ (List.mem_of_getElem? (i := 1) (by decide +kernel))) rfl, wl (pc6 _ (List.mem_of_getElem? (i := 0) (by decide +kernel))) rfl⟩
theorem mk_X12_235 : MVk RX12 235 RX10 yX10_leave cX10_leave 2 (some .int) := ⟨wl (pc6 _ (List.mem_of_getElem? (i := 1) (by decide +kernel))) rfl, wl (pc6 _ (List.mem_of_getElem? (i := 2) (by decide +kernel))) rfl, wl (pc6 _ (List.mem_of_getElem? (i := 3) (by decide +kernel))) rfl, wl (pc1 _ (List.mem_of_getElem? (i := 2) (by decide +kernel))) rfl, wl (pc6 _ (List.mem_of_getElem? (i := 4) (by decide +kernel))) rfl⟩
theorem mk_X12_237 : MVk RX12 237 RX10 yX10_mend cX10_mend 2 (some .int) := ⟨wl (pc6 _ (List.mem_of_getElem? (i := 9) (by decide +kernel))) rfl, wl (pc6 _ (List.mem_of_getElem? (i := 10) (by decide +kernel))) rfl, wl (pc6 _ (List.mem_of_getElem? (i := 11) (by decide +kernel))) rfl, wl (pc1 _ (List.mem_of_getElem? (i := 2) (by decide +kernel))) rfl, wl (pc6 _ (List.mem_of_getElem? (i := 12) (by decide +kernel))) rfl⟩
theorem mk_X12_250 : MVk RX12 250 RX10 yX10_watch cX10_watch 5 (some .int) := ⟨wl (pc6 _ (List.mem_of_getElem? (i := 22) (by decide +kernel))) rfl, wl (pc6 _ (List.mem_of_getElem? (i := 23) (by decide +kernel))) rfl, wl (pc6 _ (List.mem_of_getElem? (i := 24) (by decide +kernel))) rfl, wl (pc1 _ (List.mem_of_getElem? (i := 2) (by decide +kernel))) rfl, wl (pc6 _ (List.mem_of_getElem? (i := 25) (by decide +kernel))) rfl⟩
theorem mk_X12_253 : MVk RX12 253 RJx4a65c yJx4a65c_isEmpty_aae02 cJx4a65c_isEmpty_aae02 1 (some .boolean) := ⟨wl (pc6 _ (List.mem_of_getElem? (i := 51) (by decide +kernel))) rfl, wl (pc6 _ (List.mem_of_getElem? (i := 52) (by decide +kernel))) rfl, wl (pc6 _ (List.mem_of_getElem? (i := 53) (by decide +kernel))) rfl, wl (pc1 _ (List.mem_of_getElem? (i := 32) (by decide +kernel))) rfl, wl (pc6 _ (List.mem_of_getElem? (i := 54) (by decide +kernel))) rfl⟩
theorem mk_X12_257 : MVk RX12 257 RJx4a65c yJx4a65c_size_8abf5 cJx4a65c_size_8abf5 1 (some .int) := ⟨wl (pc6 _ (List.mem_of_getElem? (i := 55) (by decide +kernel))) rfl, wl (pc6 _ (List.mem_of_getElem? (i := 56) (by decide +kernel))) rfl, wl (pc6 _ (List.mem_of_getElem? (i := 57) (by decide +kernel))) rfl, wl (pc1 _ (List.mem_of_getElem? (i := 32) (by decide +kernel))) rfl, wl (pc6 _ (List.mem_of_getElem? (i := 58) (by decide +kernel))) rfl⟩
theorem mk_X12_260 : MVk RX12 260 RX10 yX10_undo cX10_undo 1 (some .int) := ⟨wl (pc6 _ (List.mem_of_getElem? (i := 59) (by decide +kernel))) rfl, wl (pc6 _ (List.mem_of_getElem? (i := 60) (by decide +kernel))) rfl, wl (pc6 _ (List.mem_of_getElem? (i := 61) (by decide +kernel))) rfl, wl (pc1 _ (List.mem_of_getElem? (i := 2) (by decide +kernel))) rfl, wl (pc6 _ (List.mem_of_getElem? (i := 62) (by decide +kernel))) rfl⟩
theorem mk_X12_263 : MVk RX12 263 RJx4a65c yJx4a65c_get_915e3 cJx4a65c_get_915e3 2 (some (.object "java/lang/Object")) := ⟨wl (pc6 _ (List.mem_of_getElem? (i := 67) (by decide +kernel))) rfl, wl (pc6 _ (List.mem_of_getElem? (i := 68) (by decide +kernel))) rfl, wl (pc6 _ (List.mem_of_getElem? (i := 69) (by decide +kernel))) rfl, wl (pc1 _ (List.mem_of_getElem? (i := 32) (by decide +kernel))) rfl, wl (pc6 _ (List.mem_of_getElem? (i := 70) (by decide +kernel))) rfl⟩
theorem mk_X12_267 : MVk RX12 267 RJx4a65c yJx4a65c_remove_915e3 cJx4a65c_remove_915e3 4 (some (.object "java/lang/Object")) := ⟨wl (pc6 _ (List.mem_of_getElem? (i := 79) (by decide +kernel))) rfl, wl (pc6 _ (List.mem_of_getElem? (i := 80) (by decide +kernel))) rfl, wl (pc6 _ (List.mem_of_getElem? (i := 81) (by decide +kernel))) rfl, wl (pc1 _ (List.mem_of_getElem? (i := 32) (by decide +kernel))) rfl, wl (pc6 _ (List.mem_of_getElem? (i := 82) (by decide +kernel))) rfl⟩
theorem mk_X2_53 : MVk RX2 53 RX8 yX8_at cX8_at 2 (some .int) := ⟨wl (pc2 _ (List.mem_of_getElem? (i := 190) (by decide +kernel))) rfl, wl (pc2 _ (List.mem_of_getElem? (i := 191) (by decide +kernel))) rfl, wl (pc2 _ (List.mem_of_getElem? (i := 192) (by decide +kernel))) rfl, wl (pc1 _ (List.mem_of_getElem? (i := 3) (by decide +kernel))) rfl, wl (pc2 _ (List.mem_of_getElem? (i := 193) (by decide +kernel))) rfl⟩
theorem mk_X2_57 : MVk RX2 57 RX2 yX2_goOn cX2_goOn 2 (some .boolean) := ⟨wl (pc2 _ (List.mem_of_getElem? (i := 194) (by decide +kernel))) rfl, wl (pc2 _ (List.mem_of_getElem? (i := 196) (by decide +kernel))) rfl, wl (pcS _ (List.mem_of_getElem? (i := 1) (by decide +kernel))) rfl, wl (pc1 _ (List.mem_of_getElem? (i := 7) (by decide +kernel))) rfl, wl (pc2 _ (List.mem_of_getElem? (i := 197) (by decide +kernel))) rfl⟩
theorem mk_X2_61 : MVk RX2 61 RX2 yX2_begin cX2_begin 4 (some .boolean) := ⟨wl (pc2 _ (List.mem_of_getElem? (i := 229) (by decide +kernel))) rfl, wl (pc2 _ (List.mem_of_getElem? (i := 231) (by decide +kernel))) rfl, wl (pcS _ (List.mem_of_getElem? (i := 9) (by decide +kernel))) rfl, wl (pc1 _ (List.mem_of_getElem? (i := 7) (by decide +kernel))) rfl, wl (pc2 _ (List.mem_of_getElem? (i := 232) (by decide +kernel))) rfl⟩
theorem mk_X2_64 : MVk RX2 64 RX2 yX2_release cX2_release 2 none := ⟨wl (pc2 _ (List.mem_of_getElem? (i := 206) (by decide +kernel))) rfl, wl (pc2 _ (List.mem_of_getElem? (i := 208) (by decide +kernel))) rfl, wl (pcS _ (List.mem_of_getElem? (i := 4) (by decide +kernel))) rfl, wl (pc1 _ (List.mem_of_getElem? (i := 7) (by decide +kernel))) rfl, wl (pc2 _ (List.mem_of_getElem? (i := 209) (by decide +kernel))) rfl⟩
theorem mk_X2_68 : MVk RX2 68 RX2 yX2_hold cX2_hold 2 none := ⟨wl (pc2 _ (List.mem_of_getElem? (i := 225) (by decide +kernel))) rfl, wl (pc2 _ (List.mem_of_getElem? (i := 227) (by decide +kernel))) rfl, wl (pcS _ (List.mem_of_getElem? (i := 8) (by decide +kernel))) rfl, wl (pc1 _ (List.mem_of_getElem? (i := 7) (by decide +kernel))) rfl, wl (pc2 _ (List.mem_of_getElem? (i := 228) (by decide +kernel))) rfl⟩
theorem mk_X2_71 : MVk RX2 71 RX2 yX2_open cX2_open 1 (some .boolean) := ⟨wl (pc2 _ (List.mem_of_getElem? (i := 233) (by decide +kernel))) rfl, wl (pc2 _ (List.mem_of_getElem? (i := 235) (by decide +kernel))) rfl, wl (pcS _ (List.mem_of_getElem? (i := 10) (by decide +kernel))) rfl, wl (pc1 _ (List.mem_of_getElem? (i := 7) (by decide +kernel))) rfl, wl (pc2 _ (List.mem_of_getElem? (i := 236) (by decide +kernel))) rfl⟩
theorem mk_X2_77 : MVk RX2 77 RJ0 yJ0_indexOf_0f7a4 cJ0_indexOf_0f7a4 2 (some .int) := ⟨wl (pc2 _ (List.mem_of_getElem? (i := 238) (by decide +kernel))) rfl, wl (pc2 _ (List.mem_of_getElem? (i := 239) (by decide +kernel))) rfl, wl (pc3 _ (List.mem_of_getElem? (i := 0) (by decide +kernel))) rfl, wl (pc1 _ (List.mem_of_getElem? (i := 13) (by decide +kernel))) rfl, wl (pc3 _ (List.mem_of_getElem? (i := 1) (by decide +kernel))) rfl⟩
theorem mk_X2_82 : MVk RX2 82 RX2 yX2_put cX2_put 2 none := ⟨wl (pc2 _ (List.mem_of_getElem? (i := 213) (by decide +kernel))) rfl, wl (pc2 _ (List.mem_of_getElem? (i := 215) (by decide +kernel))) rfl, wl (pcS _ (List.mem_of_getElem? (i := 5) (by decide +kernel))) rfl, wl (pc1 _ (List.mem_of_getElem? (i := 7) (by decide +kernel))) rfl, wl (pc2 _ (List.mem_of_getElem? (i := 216) (by decide +kernel))) rfl⟩
theorem mk_X2_85 : MVk RX2 85 RX2 yX2_lengthen cX2_lengthen 2 (some .boolean) := ⟨wl (pc2 _ (List.mem_of_getElem? (i := 198) (by decide +kernel))) rfl, wl (pc2 _ (List.mem_of_getElem? (i := 200) (by decide +kernel))) rfl, wl (pcS _ (List.mem_of_getElem? (i := 2) (by decide +kernel))) rfl, wl (pc1 _ (List.mem_of_getElem? (i := 7) (by decide +kernel))) rfl, wl (pc2 _ (List.mem_of_getElem? (i := 201) (by decide +kernel))) rfl⟩
theorem mk_X2_88 : MVk RX2 88 RX2 yX2_close cX2_close 1 (some .boolean) := ⟨wl (pc2 _ (List.mem_of_getElem? (i := 202) (by decide +kernel))) rfl, wl (pc2 _ (List.mem_of_getElem? (i := 204) (by decide +kernel))) rfl, wl (pcS _ (List.mem_of_getElem? (i := 3) (by decide +kernel))) rfl, wl (pc1 _ (List.mem_of_getElem? (i := 7) (by decide +kernel))) rfl, wl (pc2 _ (List.mem_of_getElem? (i := 205) (by decide +kernel))) rfl⟩
theorem mk_X2_91 : MVk RX2 91 RX2 yX2_compare cX2_compare 2 (some .boolean) := ⟨wl (pc2 _ (List.mem_of_getElem? (i := 217) (by decide +kernel))) rfl, wl (pc2 _ (List.mem_of_getElem? (i := 219) (by decide +kernel))) rfl, wl (pcS _ (List.mem_of_getElem? (i := 6) (by decide +kernel))) rfl, wl (pc1 _ (List.mem_of_getElem? (i := 7) (by decide +kernel))) rfl, wl (pc2 _ (List.mem_of_getElem? (i := 220) (by decide +kernel))) rfl⟩
theorem mk_X2_94 : MVk RX2 94 RX2 yX2_operate cX2_operate 2 none := ⟨wl (pc2 _ (List.mem_of_getElem? (i := 221) (by decide +kernel))) rfl, wl (pc2 _ (List.mem_of_getElem? (i := 223) (by decide +kernel))) rfl, wl (pcS _ (List.mem_of_getElem? (i := 7) (by decide +kernel))) rfl, wl (pc1 _ (List.mem_of_getElem? (i := 7) (by decide +kernel))) rfl, wl (pc2 _ (List.mem_of_getElem? (i := 224) (by decide +kernel))) rfl⟩
theorem mk_X2_97 : MSk RX2 97 yX2_rank cX2_rank 1 (some .int) := ⟨wl (pc2 _ (List.mem_of_getElem? (i := 210) (by decide +kernel))) rfl, wl (pc2 _ (List.mem_of_getElem? (i := 211) (by decide +kernel))) rfl, wl (pc1 _ (List.mem_of_getElem? (i := 7) (by decide +kernel))) rfl, wl (pc2 _ (List.mem_of_getElem? (i := 212) (by decide +kernel))) rfl⟩
theorem mk_X2_100 : MVk RX2 100 RX2 yX2_named cX2_named 3 (some .int) := ⟨wl (pc4 _ (List.mem_of_getElem? (i := 204) (by decide +kernel))) rfl, wl (pc4 _ (List.mem_of_getElem? (i := 206) (by decide +kernel))) rfl, wl (pcS _ (List.mem_of_getElem? (i := 17) (by decide +kernel))) rfl, wl (pc1 _ (List.mem_of_getElem? (i := 7) (by decide +kernel))) rfl, wl (pc4 _ (List.mem_of_getElem? (i := 207) (by decide +kernel))) rfl⟩
theorem mk_X2_103 : MSk RX2 103 yX2_combine cX2_combine 3 (some .int) := ⟨wl (pc4 _ (List.mem_of_getElem? (i := 208) (by decide +kernel))) rfl, wl (pc4 _ (List.mem_of_getElem? (i := 209) (by decide +kernel))) rfl, wl (pc1 _ (List.mem_of_getElem? (i := 7) (by decide +kernel))) rfl, wl (pc4 _ (List.mem_of_getElem? (i := 210) (by decide +kernel))) rfl⟩
theorem mk_X4_25 : MVk RX4 25 RX1 yX1_copy cX1_copy 3 none := ⟨wl (pc4 _ (List.mem_of_getElem? (i := 159) (by decide +kernel))) rfl, wl (pc4 _ (List.mem_of_getElem? (i := 134) (by decide +kernel))) rfl, wl (pc4 _ (List.mem_of_getElem? (i := 135) (by decide +kernel))) rfl, wl (pc1 _ (List.mem_of_getElem? (i := 8) (by decide +kernel))) rfl, wl (pc4 _ (List.mem_of_getElem? (i := 136) (by decide +kernel))) rfl⟩
theorem mk_X5_22 : MVk RX5 22 RX5 yX5_has cX5_has 2 (some .boolean) := ⟨wl (pc4 _ (List.mem_of_getElem? (i := 194) (by decide +kernel))) rfl, wl (pc4 _ (List.mem_of_getElem? (i := 105) (by decide +kernel))) rfl, wl (pc4 _ (List.mem_of_getElem? (i := 106) (by decide +kernel))) rfl, wl (pc1 _ (List.mem_of_getElem? (i := 6) (by decide +kernel))) rfl, wl (pc4 _ (List.mem_of_getElem? (i := 107) (by decide +kernel))) rfl⟩
theorem mk_X5_26 : MVk RX5 26 RX5 yX5_secondOf cX5_secondOf 2 (some .int) := ⟨wl (pc4 _ (List.mem_of_getElem? (i := 222) (by decide +kernel))) rfl, wl (pc4 _ (List.mem_of_getElem? (i := 223) (by decide +kernel))) rfl, wl (pc4 _ (List.mem_of_getElem? (i := 224) (by decide +kernel))) rfl, wl (pc1 _ (List.mem_of_getElem? (i := 6) (by decide +kernel))) rfl, wl (pc4 _ (List.mem_of_getElem? (i := 225) (by decide +kernel))) rfl⟩
theorem mk_X5_39 : MVk RX5 39 RX8 yX8_at cX8_at 2 (some .int) := ⟨wl (pc4 _ (List.mem_of_getElem? (i := 76) (by decide +kernel))) rfl, wl (pc2 _ (List.mem_of_getElem? (i := 191) (by decide +kernel))) rfl, wl (pc2 _ (List.mem_of_getElem? (i := 192) (by decide +kernel))) rfl, wl (pc1 _ (List.mem_of_getElem? (i := 3) (by decide +kernel))) rfl, wl (pc2 _ (List.mem_of_getElem? (i := 193) (by decide +kernel))) rfl⟩
theorem mk_X5_42 : MVk RX5 42 RX5 yX5_fits cX5_fits 3 (some .boolean) := ⟨wl (pc4 _ (List.mem_of_getElem? (i := 77) (by decide +kernel))) rfl, wl (pc4 _ (List.mem_of_getElem? (i := 79) (by decide +kernel))) rfl, wl (pcS _ (List.mem_of_getElem? (i := 12) (by decide +kernel))) rfl, wl (pc1 _ (List.mem_of_getElem? (i := 6) (by decide +kernel))) rfl, wl (pc4 _ (List.mem_of_getElem? (i := 80) (by decide +kernel))) rfl⟩
theorem mk_X5_46 : MVk RX5 46 RX8 yX8_number cX8_number 5 (some .int) := ⟨wl (pc4 _ (List.mem_of_getElem? (i := 85) (by decide +kernel))) rfl, wl (pc4 _ (List.mem_of_getElem? (i := 86) (by decide +kernel))) rfl, wl (pc4 _ (List.mem_of_getElem? (i := 87) (by decide +kernel))) rfl, wl (pc1 _ (List.mem_of_getElem? (i := 3) (by decide +kernel))) rfl, wl (pc4 _ (List.mem_of_getElem? (i := 88) (by decide +kernel))) rfl⟩
theorem mk_X5_49 : MVk RX5 49 RX5 yX5_firstOf cX5_firstOf 2 (some .int) := ⟨wl (pc4 _ (List.mem_of_getElem? (i := 230) (by decide +kernel))) rfl, wl (pc4 _ (List.mem_of_getElem? (i := 191) (by decide +kernel))) rfl, wl (pc4 _ (List.mem_of_getElem? (i := 192) (by decide +kernel))) rfl, wl (pc1 _ (List.mem_of_getElem? (i := 6) (by decide +kernel))) rfl, wl (pc4 _ (List.mem_of_getElem? (i := 193) (by decide +kernel))) rfl⟩
theorem mk_X5_55 : MSk RX5 55 yJ6_bitCount_0f7a4 cJ6_bitCount_0f7a4 1 (some .int) := ⟨wl (pc4 _ (List.mem_of_getElem? (i := 235) (by decide +kernel))) rfl, wl (pc4 _ (List.mem_of_getElem? (i := 146) (by decide +kernel))) rfl, wl (pc1 _ (List.mem_of_getElem? (i := 25) (by decide +kernel))) rfl, wl (pc4 _ (List.mem_of_getElem? (i := 147) (by decide +kernel))) rfl⟩
theorem mk_X8_19 : MVk RX8 19 RX8 yX8_at cX8_at 2 (some .int) := ⟨wl (pc4 _ (List.mem_of_getElem? (i := 93) (by decide +kernel))) rfl, wl (pc2 _ (List.mem_of_getElem? (i := 191) (by decide +kernel))) rfl, wl (pc2 _ (List.mem_of_getElem? (i := 192) (by decide +kernel))) rfl, wl (pc1 _ (List.mem_of_getElem? (i := 3) (by decide +kernel))) rfl, wl (pc2 _ (List.mem_of_getElem? (i := 193) (by decide +kernel))) rfl⟩
theorem mk_X8_23 : MVk RX8 23 RX8 yX8_digitAt cX8_digitAt 3 (some .boolean) := ⟨wl (pc4 _ (List.mem_of_getElem? (i := 89) (by decide +kernel))) rfl, wl (pc4 _ (List.mem_of_getElem? (i := 90) (by decide +kernel))) rfl, wl (pc4 _ (List.mem_of_getElem? (i := 91) (by decide +kernel))) rfl, wl (pc1 _ (List.mem_of_getElem? (i := 3) (by decide +kernel))) rfl, wl (pc4 _ (List.mem_of_getElem? (i := 92) (by decide +kernel))) rfl⟩
theorem mk_X9_37 : MVk RX9 37 RX5 yX5_firstOf cX5_firstOf 2 (some .int) := ⟨wl (pc4 _ (List.mem_of_getElem? (i := 190) (by decide +kernel))) rfl, wl (pc4 _ (List.mem_of_getElem? (i := 191) (by decide +kernel))) rfl, wl (pc4 _ (List.mem_of_getElem? (i := 192) (by decide +kernel))) rfl, wl (pc1 _ (List.mem_of_getElem? (i := 6) (by decide +kernel))) rfl, wl (pc4 _ (List.mem_of_getElem? (i := 193) (by decide +kernel))) rfl⟩
theorem mk_X9_43 : MVk RX9 43 RX1 yX1_tiredOf cX1_tiredOf 2 (some .int) := ⟨wl (pc4 _ (List.mem_of_getElem? (i := 195) (by decide +kernel))) rfl, wl (pc4 _ (List.mem_of_getElem? (i := 196) (by decide +kernel))) rfl, wl (pc4 _ (List.mem_of_getElem? (i := 197) (by decide +kernel))) rfl, wl (pc1 _ (List.mem_of_getElem? (i := 8) (by decide +kernel))) rfl, wl (pc4 _ (List.mem_of_getElem? (i := 198) (by decide +kernel))) rfl⟩
theorem mk_X9_46 : MSk RX9 46 yJ6_bitCount_0f7a4 cJ6_bitCount_0f7a4 1 (some .int) := ⟨wl (pc4 _ (List.mem_of_getElem? (i := 199) (by decide +kernel))) rfl, wl (pc4 _ (List.mem_of_getElem? (i := 146) (by decide +kernel))) rfl, wl (pc1 _ (List.mem_of_getElem? (i := 25) (by decide +kernel))) rfl, wl (pc4 _ (List.mem_of_getElem? (i := 147) (by decide +kernel))) rfl⟩
theorem mk_X9_54 : MVk RX9 54 RX2 yX2_value cX2_value 13 (some .int) := ⟨wl (pc4 _ (List.mem_of_getElem? (i := 200) (by decide +kernel))) rfl, wl (pc4 _ (List.mem_of_getElem? (i := 201) (by decide +kernel))) rfl, wl (pc4 _ (List.mem_of_getElem? (i := 202) (by decide +kernel))) rfl, wl (pc1 _ (List.mem_of_getElem? (i := 7) (by decide +kernel))) rfl, wl (pc4 _ (List.mem_of_getElem? (i := 203) (by decide +kernel))) rfl⟩
theorem mk_X9_64 : MVk RX9 64 RX9 yX9_volume cX9_volume 6 (some .int) := ⟨wl (pc4 _ (List.mem_of_getElem? (i := 186) (by decide +kernel))) rfl, wl (pc4 _ (List.mem_of_getElem? (i := 187) (by decide +kernel))) rfl, wl (pc4 _ (List.mem_of_getElem? (i := 188) (by decide +kernel))) rfl, wl (pc1 _ (List.mem_of_getElem? (i := 5) (by decide +kernel))) rfl, wl (pc4 _ (List.mem_of_getElem? (i := 189) (by decide +kernel))) rfl⟩
theorem mk_X9_86 : MVk RX9 86 RX1 yX1_workAndRest cX1_workAndRest 3 none := ⟨wl (pc4 _ (List.mem_of_getElem? (i := 212) (by decide +kernel))) rfl, wl (pc4 _ (List.mem_of_getElem? (i := 213) (by decide +kernel))) rfl, wl (pc4 _ (List.mem_of_getElem? (i := 214) (by decide +kernel))) rfl, wl (pc1 _ (List.mem_of_getElem? (i := 8) (by decide +kernel))) rfl, wl (pc4 _ (List.mem_of_getElem? (i := 215) (by decide +kernel))) rfl⟩
theorem mk_X9_92 : MVk RX9 92 RX5 yX5_secondsOf cX5_secondsOf 4 (some .int) := ⟨wl (pc4 _ (List.mem_of_getElem? (i := 218) (by decide +kernel))) rfl, wl (pc4 _ (List.mem_of_getElem? (i := 219) (by decide +kernel))) rfl, wl (pc4 _ (List.mem_of_getElem? (i := 220) (by decide +kernel))) rfl, wl (pc1 _ (List.mem_of_getElem? (i := 6) (by decide +kernel))) rfl, wl (pc4 _ (List.mem_of_getElem? (i := 221) (by decide +kernel))) rfl⟩
theorem mk_X9_95 : MVk RX9 95 RX9 yX9_ring cX9_ring 3 (some .boolean) := ⟨wl (pc4 _ (List.mem_of_getElem? (i := 182) (by decide +kernel))) rfl, wl (pc4 _ (List.mem_of_getElem? (i := 183) (by decide +kernel))) rfl, wl (pc4 _ (List.mem_of_getElem? (i := 184) (by decide +kernel))) rfl, wl (pc1 _ (List.mem_of_getElem? (i := 5) (by decide +kernel))) rfl, wl (pc4 _ (List.mem_of_getElem? (i := 185) (by decide +kernel))) rfl⟩
theorem mk_X9_102 : MVk RX9 102 RX5 yX5_hearing cX5_hearing 4 (some .int) := ⟨wl (pc4 _ (List.mem_of_getElem? (i := 226) (by decide +kernel))) rfl, wl (pc4 _ (List.mem_of_getElem? (i := 227) (by decide +kernel))) rfl, wl (pc4 _ (List.mem_of_getElem? (i := 228) (by decide +kernel))) rfl, wl (pc1 _ (List.mem_of_getElem? (i := 6) (by decide +kernel))) rfl, wl (pc4 _ (List.mem_of_getElem? (i := 229) (by decide +kernel))) rfl⟩
theorem mk_X9_105 : MVk RX9 105 RX5 yX5_moved cX5_moved 5 (some .int) := ⟨wl (pc4 _ (List.mem_of_getElem? (i := 231) (by decide +kernel))) rfl, wl (pc4 _ (List.mem_of_getElem? (i := 232) (by decide +kernel))) rfl, wl (pc4 _ (List.mem_of_getElem? (i := 233) (by decide +kernel))) rfl, wl (pc1 _ (List.mem_of_getElem? (i := 6) (by decide +kernel))) rfl, wl (pc4 _ (List.mem_of_getElem? (i := 234) (by decide +kernel))) rfl⟩
theorem cn_J11_76 : Cond.constant RJ11 76 (56320) ∈ wall := wl (pc3 _ (List.mem_of_getElem? (i := 54) (by decide +kernel))) rfl
theorem cn_J11_110 : Cond.constant RJ11 110 (55232) ∈ wall := wl (pc3 _ (List.mem_of_getElem? (i := 50) (by decide +kernel))) rfl
theorem cn_J2_20 : Cond.constant RJ2 20 (1073741823) ∈ wall := wl (pc3 _ (List.mem_of_getElem? (i := 117) (by decide +kernel))) rfl
theorem cn_J2_227 : Cond.constant RJ2 227 (65536) ∈ wall := wl (pc3 _ (List.mem_of_getElem? (i := 25) (by decide +kernel))) rfl
theorem cn_J5_39 : Cond.constant RJ5 39 (2147483647) ∈ wall := wl (pc3 _ (List.mem_of_getElem? (i := 160) (by decide +kernel))) rfl
theorem cn_J6_265 : Cond.constant RJ6 265 (1431655765) ∈ wall := wl (pc4 _ (List.mem_of_getElem? (i := 148) (by decide +kernel))) rfl
theorem cn_J6_266 : Cond.constant RJ6 266 (858993459) ∈ wall := wl (pc4 _ (List.mem_of_getElem? (i := 149) (by decide +kernel))) rfl
theorem cn_J6_267 : Cond.constant RJ6 267 (252645135) ∈ wall := wl (pc4 _ (List.mem_of_getElem? (i := 150) (by decide +kernel))) rfl
theorem cn_J8_200 : Cond.constant RJ8 200 (2147483639) ∈ wall := wl (pc3 _ (List.mem_of_getElem? (i := 156) (by decide +kernel))) rfl
theorem cn_X12_21 : Cond.constant RX12 21 (-7777777) ∈ wall := wl (pc5 _ (List.mem_of_getElem? (i := 133) (by decide +kernel))) rfl
theorem cn_X12_15 : Cond.constantLong RX12 15 (-7777777) ∈ wall := wl (pc5 _ (List.mem_of_getElem? (i := 117) (by decide +kernel))) rfl
theorem mk_J1_38 : Mth RJ1 38 Lib.Math.min.name Lib.Math.min.code := ⟨wl (pc3 _ (List.mem_of_getElem? (i := 16) (by decide +kernel))) rfl, wl (pc2 _ (List.mem_of_getElem? (i := 188) (by decide +kernel))) rfl, wl (pc1 _ (List.mem_of_getElem? (i := 12) (by decide +kernel))) rfl, wl (pc2 _ (List.mem_of_getElem? (i := 189) (by decide +kernel))) rfl⟩
theorem mk_J1_92 : Mth RJ1 92 Lib.Math.max.name Lib.Math.max.code := ⟨wl (pc3 _ (List.mem_of_getElem? (i := 13) (by decide +kernel))) rfl, wl (pc3 _ (List.mem_of_getElem? (i := 14) (by decide +kernel))) rfl, wl (pc1 _ (List.mem_of_getElem? (i := 12) (by decide +kernel))) rfl, wl (pc3 _ (List.mem_of_getElem? (i := 15) (by decide +kernel))) rfl⟩
theorem mk_J2_183 : Mth RJ2 183 Lib.Math.min.name Lib.Math.min.code := ⟨wl (pc3 _ (List.mem_of_getElem? (i := 24) (by decide +kernel))) rfl, wl (pc2 _ (List.mem_of_getElem? (i := 188) (by decide +kernel))) rfl, wl (pc1 _ (List.mem_of_getElem? (i := 12) (by decide +kernel))) rfl, wl (pc2 _ (List.mem_of_getElem? (i := 189) (by decide +kernel))) rfl⟩
theorem mk_J2_224 : Mth RJ2 224 Lib.Math.max.name Lib.Math.max.code := ⟨wl (pc3 _ (List.mem_of_getElem? (i := 23) (by decide +kernel))) rfl, wl (pc3 _ (List.mem_of_getElem? (i := 14) (by decide +kernel))) rfl, wl (pc1 _ (List.mem_of_getElem? (i := 12) (by decide +kernel))) rfl, wl (pc3 _ (List.mem_of_getElem? (i := 15) (by decide +kernel))) rfl⟩
theorem mk_J7_304 : Mth RJ7 304 Lib.Math.min.name Lib.Math.min.code := ⟨wl (pc3 _ (List.mem_of_getElem? (i := 171) (by decide +kernel))) rfl, wl (pc2 _ (List.mem_of_getElem? (i := 188) (by decide +kernel))) rfl, wl (pc1 _ (List.mem_of_getElem? (i := 12) (by decide +kernel))) rfl, wl (pc2 _ (List.mem_of_getElem? (i := 189) (by decide +kernel))) rfl⟩
theorem mk_J8_194 : Mth RJ8 194 Lib.Math.max.name Lib.Math.max.code := ⟨wl (pc3 _ (List.mem_of_getElem? (i := 155) (by decide +kernel))) rfl, wl (pc3 _ (List.mem_of_getElem? (i := 14) (by decide +kernel))) rfl, wl (pc1 _ (List.mem_of_getElem? (i := 12) (by decide +kernel))) rfl, wl (pc3 _ (List.mem_of_getElem? (i := 15) (by decide +kernel))) rfl⟩
theorem mk_Jx4a65c_79 : Mth RJx4a65c 79 Lib.Math.max.name Lib.Math.max.code := ⟨wl (pc5 _ (List.mem_of_getElem? (i := 234) (by decide +kernel))) rfl, wl (pc3 _ (List.mem_of_getElem? (i := 14) (by decide +kernel))) rfl, wl (pc1 _ (List.mem_of_getElem? (i := 12) (by decide +kernel))) rfl, wl (pc3 _ (List.mem_of_getElem? (i := 15) (by decide +kernel))) rfl⟩
theorem mk_X0_15 : Mth RX0 15 Lib.Math.min.name Lib.Math.min.code := ⟨wl (pc6 _ (List.mem_of_getElem? (i := 29) (by decide +kernel))) rfl, wl (pc2 _ (List.mem_of_getElem? (i := 188) (by decide +kernel))) rfl, wl (pc1 _ (List.mem_of_getElem? (i := 12) (by decide +kernel))) rfl, wl (pc2 _ (List.mem_of_getElem? (i := 189) (by decide +kernel))) rfl⟩
theorem mk_X1_40 : Mth RX1 40 Lib.Math.min.name Lib.Math.min.code := ⟨wl (pc4 _ (List.mem_of_getElem? (i := 216) (by decide +kernel))) rfl, wl (pc2 _ (List.mem_of_getElem? (i := 188) (by decide +kernel))) rfl, wl (pc1 _ (List.mem_of_getElem? (i := 12) (by decide +kernel))) rfl, wl (pc2 _ (List.mem_of_getElem? (i := 189) (by decide +kernel))) rfl⟩
theorem mk_X1_46 : Mth RX1 46 Lib.Math.max.name Lib.Math.max.code := ⟨wl (pc4 _ (List.mem_of_getElem? (i := 217) (by decide +kernel))) rfl, wl (pc3 _ (List.mem_of_getElem? (i := 14) (by decide +kernel))) rfl, wl (pc1 _ (List.mem_of_getElem? (i := 12) (by decide +kernel))) rfl, wl (pc3 _ (List.mem_of_getElem? (i := 15) (by decide +kernel))) rfl⟩
theorem mk_X10_172 : Mth RX10 172 Lib.Math.min.name Lib.Math.min.code := ⟨wl (pc4 _ (List.mem_of_getElem? (i := 111) (by decide +kernel))) rfl, wl (pc2 _ (List.mem_of_getElem? (i := 188) (by decide +kernel))) rfl, wl (pc1 _ (List.mem_of_getElem? (i := 12) (by decide +kernel))) rfl, wl (pc2 _ (List.mem_of_getElem? (i := 189) (by decide +kernel))) rfl⟩
theorem mk_X10_177 : Mth RX10 177 Lib.Math.max.name Lib.Math.max.code := ⟨wl (pc4 _ (List.mem_of_getElem? (i := 112) (by decide +kernel))) rfl, wl (pc3 _ (List.mem_of_getElem? (i := 14) (by decide +kernel))) rfl, wl (pc1 _ (List.mem_of_getElem? (i := 12) (by decide +kernel))) rfl, wl (pc3 _ (List.mem_of_getElem? (i := 15) (by decide +kernel))) rfl⟩
theorem mk_X12_108 : Mth RX12 108 Lib.Math.min.name Lib.Math.min.code := ⟨wl (pc4 _ (List.mem_of_getElem? (i := 98) (by decide +kernel))) rfl, wl (pc2 _ (List.mem_of_getElem? (i := 188) (by decide +kernel))) rfl, wl (pc1 _ (List.mem_of_getElem? (i := 12) (by decide +kernel))) rfl, wl (pc2 _ (List.mem_of_getElem? (i := 189) (by decide +kernel))) rfl⟩
theorem mk_X12_113 : Mth RX12 113 Lib.Math.max.name Lib.Math.max.code := ⟨wl (pc4 _ (List.mem_of_getElem? (i := 99) (by decide +kernel))) rfl, wl (pc3 _ (List.mem_of_getElem? (i := 14) (by decide +kernel))) rfl, wl (pc1 _ (List.mem_of_getElem? (i := 12) (by decide +kernel))) rfl, wl (pc3 _ (List.mem_of_getElem? (i := 15) (by decide +kernel))) rfl⟩
theorem mk_X2_47 : Mth RX2 47 Lib.Math.min.name Lib.Math.min.code := ⟨wl (pc2 _ (List.mem_of_getElem? (i := 187) (by decide +kernel))) rfl, wl (pc2 _ (List.mem_of_getElem? (i := 188) (by decide +kernel))) rfl, wl (pc1 _ (List.mem_of_getElem? (i := 12) (by decide +kernel))) rfl, wl (pc2 _ (List.mem_of_getElem? (i := 189) (by decide +kernel))) rfl⟩
theorem mk_X4_29 : Mth RX4 29 Lib.Math.min.name Lib.Math.min.code := ⟨wl (pc4 _ (List.mem_of_getElem? (i := 160) (by decide +kernel))) rfl, wl (pc2 _ (List.mem_of_getElem? (i := 188) (by decide +kernel))) rfl, wl (pc1 _ (List.mem_of_getElem? (i := 12) (by decide +kernel))) rfl, wl (pc2 _ (List.mem_of_getElem? (i := 189) (by decide +kernel))) rfl⟩
theorem mk_X5_33 : Mth RX5 33 Lib.Math.min.name Lib.Math.min.code := ⟨wl (pc4 _ (List.mem_of_getElem? (i := 75) (by decide +kernel))) rfl, wl (pc2 _ (List.mem_of_getElem? (i := 188) (by decide +kernel))) rfl, wl (pc1 _ (List.mem_of_getElem? (i := 12) (by decide +kernel))) rfl, wl (pc2 _ (List.mem_of_getElem? (i := 189) (by decide +kernel))) rfl⟩
theorem mk_X9_77 : Mth RX9 77 Lib.Math.max.name Lib.Math.max.code := ⟨wl (pc4 _ (List.mem_of_getElem? (i := 211) (by decide +kernel))) rfl, wl (pc3 _ (List.mem_of_getElem? (i := 14) (by decide +kernel))) rfl, wl (pc1 _ (List.mem_of_getElem? (i := 12) (by decide +kernel))) rfl, wl (pc3 _ (List.mem_of_getElem? (i := 15) (by decide +kernel))) rfl⟩
theorem mk_J0_212 : Cond.methodLink RJ0 212 arraycopyName ∈ wall ∧ Cond.native arraycopyName ∈ wall ∧ Cond.static arraycopyName ∈ wall ∧ Cond.initialized "java/lang/System" ∈ wall := ⟨wl (pc3 _ (List.mem_of_getElem? (i := 219) (by decide +kernel))) rfl, wl (pc3 _ (List.mem_of_getElem? (i := 174) (by decide +kernel))) rfl, wl (pc3 _ (List.mem_of_getElem? (i := 173) (by decide +kernel))) rfl, wl (pc1 _ (List.mem_of_getElem? (i := 23) (by decide +kernel))) rfl⟩
theorem mk_J7_150 : Cond.methodLink RJ7 150 arraycopyName ∈ wall ∧ Cond.native arraycopyName ∈ wall ∧ Cond.static arraycopyName ∈ wall ∧ Cond.initialized "java/lang/System" ∈ wall := ⟨wl (pc3 _ (List.mem_of_getElem? (i := 172) (by decide +kernel))) rfl, wl (pc3 _ (List.mem_of_getElem? (i := 174) (by decide +kernel))) rfl, wl (pc3 _ (List.mem_of_getElem? (i := 173) (by decide +kernel))) rfl, wl (pc1 _ (List.mem_of_getElem? (i := 23) (by decide +kernel))) rfl⟩
theorem mk_Jx4a65c_112 : Cond.methodLink RJx4a65c 112 arraycopyName ∈ wall ∧ Cond.native arraycopyName ∈ wall ∧ Cond.static arraycopyName ∈ wall ∧ Cond.initialized "java/lang/System" ∈ wall := ⟨wl (pc6 _ (List.mem_of_getElem? (i := 87) (by decide +kernel))) rfl, wl (pc3 _ (List.mem_of_getElem? (i := 174) (by decide +kernel))) rfl, wl (pc3 _ (List.mem_of_getElem? (i := 173) (by decide +kernel))) rfl, wl (pc1 _ (List.mem_of_getElem? (i := 23) (by decide +kernel))) rfl⟩
theorem fk_J0_9 : Cond.fieldLink RJ0 9 "java/lang/String" "value" "[B" ∈ wall := wl (pc4 _ (List.mem_of_getElem? (i := 52) (by decide +kernel))) rfl
theorem fk_J0_15 : Cond.fieldLink RJ0 15 "java/lang/String" "coder" "B" ∈ wall := wl (pc4 _ (List.mem_of_getElem? (i := 53) (by decide +kernel))) rfl
theorem fk_J0_38 : Cond.fieldLink RJ0 38 "java/lang/String" "COMPACT_STRINGS" "Z" ∈ wall := wl (pc2 _ (List.mem_of_getElem? (i := 127) (by decide +kernel))) rfl
theorem fk_J0_1048 : Cond.fieldLink RJ0 1048 "java/lang/AbstractStringBuilder" "maybeLatin1" "Z" ∈ wall := wl (pc3 _ (List.mem_of_getElem? (i := 120) (by decide +kernel))) rfl
theorem fk_J0_1053 : Cond.fieldLink RJ0 1053 "jdk/internal/util/Preconditions" "SIOOBE_FORMATTER" "Ljava/util/function/BiFunction;" ∈ wall := wl (pc2 _ (List.mem_of_getElem? (i := 143) (by decide +kernel))) rfl
theorem fk_J2_44 : Cond.fieldLink RJ2 44 "java/lang/StringUTF16" "$assertionsDisabled" "Z" ∈ wall := wl (pc2 _ (List.mem_of_getElem? (i := 161) (by decide +kernel))) rfl
theorem fk_J2_59 : Cond.fieldLink RJ2 59 "java/lang/StringUTF16" "HI_BYTE_SHIFT" "I" ∈ wall := wl (pc2 _ (List.mem_of_getElem? (i := 163) (by decide +kernel))) rfl
theorem fk_J2_63 : Cond.fieldLink RJ2 63 "java/lang/StringUTF16" "LO_BYTE_SHIFT" "I" ∈ wall := wl (pc2 _ (List.mem_of_getElem? (i := 165) (by decide +kernel))) rfl
theorem fk_J2_403 : Cond.fieldLink RJ2 403 "java/lang/Integer" "DigitOnes" "[B" ∈ wall := wl (pc4 _ (List.mem_of_getElem? (i := 4) (by decide +kernel))) rfl
theorem fk_J2_407 : Cond.fieldLink RJ2 407 "java/lang/Integer" "DigitTens" "[B" ∈ wall := wl (pc4 _ (List.mem_of_getElem? (i := 5) (by decide +kernel))) rfl
theorem fk_J5_18 : Cond.fieldLink RJ5 18 "java/lang/String" "COMPACT_STRINGS" "Z" ∈ wall := wl (pc3 _ (List.mem_of_getElem? (i := 110) (by decide +kernel))) rfl
theorem fk_J6_83 : Cond.fieldLink RJ6 83 "java/lang/Integer" "DigitOnes" "[B" ∈ wall := wl (pc3 _ (List.mem_of_getElem? (i := 234) (by decide +kernel))) rfl
theorem fk_J6_87 : Cond.fieldLink RJ6 87 "java/lang/Integer" "DigitTens" "[B" ∈ wall := wl (pc3 _ (List.mem_of_getElem? (i := 236) (by decide +kernel))) rfl
theorem fk_Jx4a65c_39 : Cond.fieldLink RJx4a65c 39 "java/util/ArrayList" "DEFAULTCAPACITY_EMPTY_ELEMENTDATA" "[Ljava/lang/Object;" ∈ wall := wl (pc5 _ (List.mem_of_getElem? (i := 174) (by decide +kernel))) rfl
theorem fk_Jx4a65c_63 : Cond.fieldLink RJx4a65c 63 "java/util/ArrayList" "modCount" "I" ∈ wall := wl (pc5 _ (List.mem_of_getElem? (i := 179) (by decide +kernel))) rfl
theorem fk_X12_146 : Cond.fieldLink RX12 146 "MustNotStopLaw$Bench" "RULES" "[Ljava/lang/String;" ∈ wall := wl (pc2 _ (List.mem_of_getElem? (i := 114) (by decide +kernel))) rfl
