-- ===== the wrappers of the law =====
def lwR (o : Option Int64) (w1 : Wd) : Int32 × Wd := match o with
  | some v => (0, sJ w1 119 0 v)
  | none => (1, w1)
abbrev rmx_L : Room := { frames := 8, cells := 1, slots := 6, locals := 300 }
theorem nx_L : Cond.classLink RL 13 nsee ∈ wall := wl (pc5 _ (List.mem_of_getElem? (i := 10) (by decide +kernel))) (by decide +kernel)
theorem mw_L_49 : MWk RL 49 yL_ringer cL_ringer 5 (some .int) [(0, 10, 13, 13)] := ⟨wl (pc5 _ (List.mem_of_getElem? (i := 7) (by decide +kernel))) rfl, wl (pc5 _ (List.mem_of_getElem? (i := 8) (by decide +kernel))) rfl, wl (pc1 _ (List.mem_of_getElem? (i := 0) (by decide +kernel))) rfl, wl (pc5 _ (List.mem_of_getElem? (i := 9) (by decide +kernel))) rfl⟩
theorem nk_L_ringer : MNk yL_ringer yL_ringer.cls 4 := ⟨rfl, by decide, by decide, by decide +kernel⟩
theorem c_L_ringer (l : Launch) (hl : l.stackTraces = false) (S : Sx) {o : Option Int32} {w1 : Wd} {F : Nat} {w : Wd} {x y : Int32} (h : P_X10_ringer F w x y = some (o, w1)) : Met l yL_ringer (Cond.codeWith yL_ringer cL_ringer 5 (some .int) [(0, 10, 13, 13)] :: wall) rmx_L (PX S w [rf S 0, .int x, .int y, rf S 119]) (QCi S (lwR (o.map Int32.toInt64) w1)) 1 6 (Aw S) := by
  refine metw hl (by decide) rfl (Nat.le_of_ble_eq_true rfl) (fun X hX hT hE => ?_)
  show VL X S (Aw S) 0 0 w 0 [(0, rf S 0), (1, .int x), (2, .int y), (3, rf S 119)] []
  refine VL_aload_n hX dL_ringer_0 3 rfl ?_
  refine VL_iconst (v := 0) hX dL_ringer_1 rfl ?_
  refine VL_aload_n hX dL_ringer_2 0 rfl ?_
  refine VL_iload_n hX dL_ringer_3 1 rfl ?_
  refine VL_iload_n hX dL_ringer_4 2 rfl ?_
  refine VL_callXi (As := [.int x, .int y]) (rest := [.int 0, rf S 119]) hX hT mk_L_7 nk_X10_ringer (fun l hl => cx_X10_ringer l hl S h) tb_0 rfl ⟨rfl, rfl, Nat.le_of_ble_eq_true rfl, Nat.le_of_ble_eq_true rfl⟩ rfl rfl (Nat.le_of_ble_eq_true rfl) dL_ringer_5 ⟨Nat.le_of_ble_eq_true rfl, Nat.le_of_ble_eq_true rfl⟩ ⟨by decide, by decide, by decide⟩ nx_L (fun ho q => ?_) (fun v ho => ?_)
  · refine VL_astore hX dL_ringer_13 (by decide) rfl ?_
    refine VL_iconst (v := 1) hX dL_ringer_15 rfl ?_
    exact hE _ _ _ _ (by rw [ho]; rfl) dL_ringer_16
  · refine VL_i2l hX dL_ringer_8 ?_
    refine VL_last hX tb_119 (by decide) dL_ringer_9 (fun w2 hw2 => ?_)
    refine VL_goto (tgt := 17) hX dL_ringer_10 (by decide) ?_
    refine VL_iconst (v := 0) hX dL_ringer_17 rfl ?_
    exact hE _ _ _ _ (by rw [ho, hw2]; rfl) dL_ringer_18
theorem mw_L_58 : MWk RL 58 yL_person cL_person 5 (some .int) [(0, 10, 13, 13)] := ⟨wl (pc5 _ (List.mem_of_getElem? (i := 77) (by decide +kernel))) rfl, wl (pc5 _ (List.mem_of_getElem? (i := 78) (by decide +kernel))) rfl, wl (pc1 _ (List.mem_of_getElem? (i := 0) (by decide +kernel))) rfl, wl (pc5 _ (List.mem_of_getElem? (i := 79) (by decide +kernel))) rfl⟩
theorem nk_L_person : MNk yL_person yL_person.cls 4 := ⟨rfl, by decide, by decide, by decide +kernel⟩
theorem c_L_person (l : Launch) (hl : l.stackTraces = false) (S : Sx) {o : Option Int32} {w1 : Wd} {F : Nat} {w : Wd} {x y : Int32} (h : P_X10_person F w x y = some (o, w1)) : Met l yL_person (Cond.codeWith yL_person cL_person 5 (some .int) [(0, 10, 13, 13)] :: wall) rmx_L (PX S w [rf S 0, .int x, .int y, rf S 119]) (QCi S (lwR (o.map Int32.toInt64) w1)) 1 6 (Aw S) := by
  refine metw hl (by decide) rfl (Nat.le_of_ble_eq_true rfl) (fun X hX hT hE => ?_)
  show VL X S (Aw S) 0 0 w 0 [(0, rf S 0), (1, .int x), (2, .int y), (3, rf S 119)] []
  refine VL_aload_n hX dL_person_0 3 rfl ?_
  refine VL_iconst (v := 0) hX dL_person_1 rfl ?_
  refine VL_aload_n hX dL_person_2 0 rfl ?_
  refine VL_iload_n hX dL_person_3 1 rfl ?_
  refine VL_iload_n hX dL_person_4 2 rfl ?_
  refine VL_callXi (As := [.int x, .int y]) (rest := [.int 0, rf S 119]) hX hT mk_L_15 nk_X10_person (fun l hl => cx_X10_person l hl S h) tb_0 rfl ⟨rfl, rfl, Nat.le_of_ble_eq_true rfl, Nat.le_of_ble_eq_true rfl⟩ rfl rfl (Nat.le_of_ble_eq_true rfl) dL_person_5 ⟨Nat.le_of_ble_eq_true rfl, Nat.le_of_ble_eq_true rfl⟩ ⟨by decide, by decide, by decide⟩ nx_L (fun ho q => ?_) (fun v ho => ?_)
  · refine VL_astore hX dL_person_13 (by decide) rfl ?_
    refine VL_iconst (v := 1) hX dL_person_15 rfl ?_
    exact hE _ _ _ _ (by rw [ho]; rfl) dL_person_16
  · refine VL_i2l hX dL_person_8 ?_
    refine VL_last hX tb_119 (by decide) dL_person_9 (fun w2 hw2 => ?_)
    refine VL_goto (tgt := 17) hX dL_person_10 (by decide) ?_
    refine VL_iconst (v := 0) hX dL_person_17 rfl ?_
    exact hE _ _ _ _ (by rw [ho, hw2]; rfl) dL_person_18
theorem mw_L_227 : MWk RL 227 yL_row cL_row 4 (some .int) [(0, 8, 11, 13)] := ⟨wl (pc5 _ (List.mem_of_getElem? (i := 84) (by decide +kernel))) rfl, wl (pc5 _ (List.mem_of_getElem? (i := 85) (by decide +kernel))) rfl, wl (pc1 _ (List.mem_of_getElem? (i := 0) (by decide +kernel))) rfl, wl (pc5 _ (List.mem_of_getElem? (i := 86) (by decide +kernel))) rfl⟩
theorem nk_L_row : MNk yL_row yL_row.cls 3 := ⟨rfl, by decide, by decide, by decide +kernel⟩
theorem c_L_row (l : Launch) (hl : l.stackTraces = false) (S : Sx) {o : Option Int64} {w1 : Wd} {F : Nat} {w : Wd} {x : Int32} (h : P_X10_row F w x = some (o, w1)) : Met l yL_row (Cond.codeWith yL_row cL_row 4 (some .int) [(0, 8, 11, 13)] :: wall) rmx_L (PX S w [rf S 0, .int x, rf S 119]) (QCi S (lwR o w1)) 1 6 (Aw S) := by
  refine metw hl (by decide) rfl (Nat.le_of_ble_eq_true rfl) (fun X hX hT hE => ?_)
  show VL X S (Aw S) 0 0 w 0 [(0, rf S 0), (1, .int x), (2, rf S 119)] []
  refine VL_aload_n hX dL_row_0 2 rfl ?_
  refine VL_iconst (v := 0) hX dL_row_1 rfl ?_
  refine VL_aload_n hX dL_row_2 0 rfl ?_
  refine VL_iload_n hX dL_row_3 1 rfl ?_
  refine VL_callXl (As := [.int x]) (rest := [.int 0, rf S 119]) hX hT mk_L_18 nk_X10_row (fun l hl => cx_X10_row l hl S h) tb_0 rfl ⟨rfl, rfl, Nat.le_of_ble_eq_true rfl, Nat.le_of_ble_eq_true rfl⟩ rfl rfl (Nat.le_of_ble_eq_true rfl) dL_row_4 ⟨Nat.le_of_ble_eq_true rfl, Nat.le_of_ble_eq_true rfl⟩ ⟨by decide, by decide, by decide⟩ nx_L (fun ho q => ?_) (fun v ho => ?_)
  · refine VL_astore_n hX dL_row_11 (by decide) rfl ?_
    refine VL_iconst (v := 1) hX dL_row_12 rfl ?_
    exact hE _ _ _ _ (by rw [ho]; rfl) dL_row_13
  · refine VL_last hX tb_119 (by decide) dL_row_7 (fun w2 hw2 => ?_)
    refine VL_goto (tgt := 14) hX dL_row_8 (by decide) ?_
    refine VL_iconst (v := 0) hX dL_row_14 rfl ?_
    exact hE _ _ _ _ (by rw [ho, hw2]; rfl) dL_row_15
