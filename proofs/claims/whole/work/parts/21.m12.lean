-- MustNotStopModel.mends(I)I
abbrev rm_X11_mends : Room := { frames := 2, cells := 0, slots := 0, locals := 89 }
theorem nk_X11_mends : MNk yX11_mends RX11 1 := ⟨rfl, by decide, by decide, by decide +kernel⟩
def P_X11_mends (F : Nat) (w : Wd) (x1 : Int32) : Option (Int32 × Wd) := bnd (P_X11_in F w (Int32.toInt64 x1) 1 99) (fun x3 w2 => (if x3 = 0 then some ((-1), w2) else gd (inB 9 16) (gd (inB 9 16) (lt (sI w2 95 9 (minI 99 ((gI w2 95 9) + x1))) (fun w7 => gd (inB 9 16) (some (gI w7 95 9, w7)))))))
set_option maxRecDepth 100000 in
set_option maxHeartbeats 4000000 in
theorem s_X11_mends {X : Cx} {S : Sx} {r : Int32 × Wd} {F : Nat} {w : Wd} {x1 : Int32}  (hX : Ok X S cX11_mends RX11 2 rm_X11_mends) (hR : HRt X S cX11_mends .int r) (hP : P_X11_mends F w x1 = some r) : V X S w 0 [(0, rf S 88), (1, .int x1)] [] := by
  unfold P_X11_mends at hP
  refine V_iload_n hX dX11_mends_0 1 rfl ?_
  refine V_i2l hX dX11_mends_1 ?_
  refine V_lconst (v := 1) hX dX11_mends_2 rfl ?_
  refine V_ldc2 (v := 99) hX dX11_mends_3 cn_X11_290 ?_
  obtain ⟨x3, w2, hcw2, hP⟩ := bnd_e hP
  refine V_callSi (As := [.long (Int32.toInt64 x1), .long 1, .long 99]) (rest := []) hX mk_X11_116 nk_X11_in (fun l => c_X11_in l S  hcw2) ⟨rfl, rfl, Nat.le_of_ble_eq_true rfl, Nat.le_of_ble_eq_true rfl⟩ rfl rfl (Nat.le_of_ble_eq_true rfl) dX11_mends_6 ?_
  refine V_if_ne (tgt := 14) hX dX11_mends_9 (by decide) (fun hc4 => ?_) (fun hc4 => ?_)
  · replace hP := ite_f hc4 hP
    refine V_aload_n hX dX11_mends_14 0 rfl ?_
    refine V_getF (j := 95) hX fk_X11_29 tb_88 (fun _ _ _ => rfl) dX11_mends_15 ?_
    refine V_bipush (v := 9) hX dX11_mends_18 (by decide) ?_
    refine V_bipush (v := 99) hX dX11_mends_20 (by decide) ?_
    refine V_aload_n hX dX11_mends_22 0 rfl ?_
    refine V_getF (j := 95) hX fk_X11_29 tb_88 (fun _ _ _ => rfl) dX11_mends_23 ?_
    refine V_bipush (v := 9) hX dX11_mends_26 (by decide) ?_
    obtain ⟨hi5, hP⟩ := gd_e hP
    refine V_iald hX tb_95 hi5 dX11_mends_28 ?_
    refine V_iload_n hX dX11_mends_29 1 rfl ?_
    refine V_iadd hX dX11_mends_30 ?_
    refine V_min hX mk_X11_129 ⟨Nat.le_of_ble_eq_true rfl, Nat.le_of_ble_eq_true rfl⟩ dX11_mends_31 ?_
    obtain ⟨hi6, hP⟩ := gd_e hP
    refine V_iast hX tb_95 hi6 dX11_mends_34 (fun w7 ew7 => ?_)
    replace hP := lt_r ew7 hP
    refine V_aload_n hX dX11_mends_35 0 rfl ?_
    refine V_getF (j := 95) hX fk_X11_29 tb_88 (fun _ _ _ => rfl) dX11_mends_36 ?_
    refine V_bipush (v := 9) hX dX11_mends_39 (by decide) ?_
    obtain ⟨hi8, hP⟩ := gd_e hP
    refine V_iald hX tb_95 hi8 dX11_mends_41 ?_
    exact hR _ _ _ _ (Option.some.inj hP) rfl dX11_mends_42
  · replace hP := ite_t hc4 hP
    refine V_iconst (v := (-1)) hX dX11_mends_12 (by decide) ?_
    exact hR _ _ _ _ (Option.some.inj hP) rfl dX11_mends_13
theorem c_X11_mends (l : Launch) (S : Sx) {r : Int32 × Wd} {F : Nat} {w : Wd} {x1 : Int32}  (h : P_X11_mends F w x1 = some r) : Met l yX11_mends (wsg yX11_mends cX11_mends 2 (some .int)) rm_X11_mends (PC S w [rf S 88, .int x1]) (QCi S r) 0 0 (Aw S) :=
  met_i (by decide) rfl (Nat.le_of_ble_eq_true rfl) ⟨rfl, rfl⟩ (fun X hX hR => s_X11_mends  hX hR h)

-- MustNotStopModel.take(I)I
abbrev rm_X11_take : Room := { frames := 4, cells := 0, slots := 0, locals := 132 }
theorem nk_X11_take : MNk yX11_take RX11 1 := ⟨rfl, by decide, by decide, by decide +kernel⟩
def P_X11_take (F : Nat) (w : Wd) (x1 : Int32) : Option (Int32 × Wd) := lt (sI w 88 0 0) (fun w2 => bnv (P_X11_putsBy F w2 ) (fun w3 => bnd (P_X11_takes F w3 95 x1) (fun x5 w4 => bnd (P_X11_counts F w4 x5) (fun x7 w6 => some (x7, w6)))))
set_option maxRecDepth 100000 in
set_option maxHeartbeats 4000000 in
theorem s_X11_take {X : Cx} {S : Sx} {r : Int32 × Wd} {F : Nat} {w : Wd} {x1 : Int32}  (hX : Ok X S cX11_take RX11 2 rm_X11_take) (hR : HRt X S cX11_take .int r) (hP : P_X11_take F w x1 = some r) : V X S w 0 [(0, rf S 88), (1, .int x1)] [] := by
  unfold P_X11_take at hP
  refine V_aload_n hX dX11_take_0 0 rfl ?_
  refine V_iconst (v := 0) hX dX11_take_1 (by decide) ?_
  refine V_putI hX fw_X11_102 tb_88 (fun _ _ _ => ⟨Nat.le_of_ble_eq_true rfl, rfl⟩) dX11_take_2 (fun w2 ew2 => ?_)
  replace hP := lt_r ew2 hP
  refine V_aload_n hX dX11_take_5 0 rfl ?_
  obtain ⟨w3, hcw3, hP⟩ := bnv_e hP
  refine V_callVv (As := []) (rest := []) hX mk_X11_292 nk_X11_putsBy (fun l => c_X11_putsBy l S  hcw3) tb_88 rfl ⟨rfl, rfl, Nat.le_of_ble_eq_true rfl, Nat.le_of_ble_eq_true rfl⟩ rfl rfl (Nat.le_of_ble_eq_true rfl) dX11_take_6 ?_
  refine V_aload_n hX dX11_take_9 0 rfl ?_
  refine V_aload_n hX dX11_take_10 0 rfl ?_
  refine V_aload_n hX dX11_take_11 0 rfl ?_
  refine V_getF (j := 95) hX fk_X11_29 tb_88 (fun _ _ _ => rfl) dX11_take_12 ?_
  refine V_iload_n hX dX11_take_15 1 rfl ?_
  obtain ⟨x5, w4, hcw4, hP⟩ := bnd_e hP
  refine V_callVi (As := [rf S 95, .int x1]) (rest := [rf S 88]) hX mk_X11_295 nk_X11_takes (fun l => c_X11_takes l S (by decide) hcw4) tb_88 rfl ⟨rfl, rfl, Nat.le_of_ble_eq_true rfl, Nat.le_of_ble_eq_true rfl⟩ rfl rfl (Nat.le_of_ble_eq_true rfl) dX11_take_16 ?_
  obtain ⟨x7, w6, hcw6, hP⟩ := bnd_e hP
  refine V_callVi (As := [.int x5]) (rest := []) hX mk_X11_298 nk_X11_counts (fun l => c_X11_counts l S  hcw6) tb_88 rfl ⟨rfl, rfl, Nat.le_of_ble_eq_true rfl, Nat.le_of_ble_eq_true rfl⟩ rfl rfl (Nat.le_of_ble_eq_true rfl) dX11_take_19 ?_
  exact hR _ _ _ _ (Option.some.inj hP) rfl dX11_take_22
theorem c_X11_take (l : Launch) (S : Sx) {r : Int32 × Wd} {F : Nat} {w : Wd} {x1 : Int32}  (h : P_X11_take F w x1 = some r) : Met l yX11_take (wsg yX11_take cX11_take 2 (some .int)) rm_X11_take (PC S w [rf S 88, .int x1]) (QCi S r) 0 0 (Aw S) :=
  met_i (by decide) rfl (Nat.le_of_ble_eq_true rfl) ⟨rfl, rfl⟩ (fun X hX hR => s_X11_take  hX hR h)

-- MustNotStopModel.leave(I)I
abbrev rm_X11_leave : Room := { frames := 4, cells := 0, slots := 0, locals := 132 }
theorem nk_X11_leave : MNk yX11_leave RX11 1 := ⟨rfl, by decide, by decide, by decide +kernel⟩
def P_X11_leave (F : Nat) (w : Wd) (x1 : Int32) : Option (Int32 × Wd) := lt (sI w 88 0 0) (fun w2 => bnv (P_X11_putsBy F w2 ) (fun w3 => bnd (P_X11_leaves F w3 95 x1) (fun x5 w4 => bnd (P_X11_counts F w4 x5) (fun x7 w6 => some (x7, w6)))))
set_option maxRecDepth 100000 in
set_option maxHeartbeats 4000000 in
theorem s_X11_leave {X : Cx} {S : Sx} {r : Int32 × Wd} {F : Nat} {w : Wd} {x1 : Int32}  (hX : Ok X S cX11_leave RX11 2 rm_X11_leave) (hR : HRt X S cX11_leave .int r) (hP : P_X11_leave F w x1 = some r) : V X S w 0 [(0, rf S 88), (1, .int x1)] [] := by
  unfold P_X11_leave at hP
  refine V_aload_n hX dX11_leave_0 0 rfl ?_
  refine V_iconst (v := 0) hX dX11_leave_1 (by decide) ?_
  refine V_putI hX fw_X11_102 tb_88 (fun _ _ _ => ⟨Nat.le_of_ble_eq_true rfl, rfl⟩) dX11_leave_2 (fun w2 ew2 => ?_)
  replace hP := lt_r ew2 hP
  refine V_aload_n hX dX11_leave_5 0 rfl ?_
  obtain ⟨w3, hcw3, hP⟩ := bnv_e hP
  refine V_callVv (As := []) (rest := []) hX mk_X11_292 nk_X11_putsBy (fun l => c_X11_putsBy l S  hcw3) tb_88 rfl ⟨rfl, rfl, Nat.le_of_ble_eq_true rfl, Nat.le_of_ble_eq_true rfl⟩ rfl rfl (Nat.le_of_ble_eq_true rfl) dX11_leave_6 ?_
  refine V_aload_n hX dX11_leave_9 0 rfl ?_
  refine V_aload_n hX dX11_leave_10 0 rfl ?_
  refine V_aload_n hX dX11_leave_11 0 rfl ?_
  refine V_getF (j := 95) hX fk_X11_29 tb_88 (fun _ _ _ => rfl) dX11_leave_12 ?_
  refine V_iload_n hX dX11_leave_15 1 rfl ?_
  obtain ⟨x5, w4, hcw4, hP⟩ := bnd_e hP
  refine V_callVi (As := [rf S 95, .int x1]) (rest := [rf S 88]) hX mk_X11_301 nk_X11_leaves (fun l => c_X11_leaves l S (by decide) hcw4) tb_88 rfl ⟨rfl, rfl, Nat.le_of_ble_eq_true rfl, Nat.le_of_ble_eq_true rfl⟩ rfl rfl (Nat.le_of_ble_eq_true rfl) dX11_leave_16 ?_
  obtain ⟨x7, w6, hcw6, hP⟩ := bnd_e hP
  refine V_callVi (As := [.int x5]) (rest := []) hX mk_X11_298 nk_X11_counts (fun l => c_X11_counts l S  hcw6) tb_88 rfl ⟨rfl, rfl, Nat.le_of_ble_eq_true rfl, Nat.le_of_ble_eq_true rfl⟩ rfl rfl (Nat.le_of_ble_eq_true rfl) dX11_leave_19 ?_
  exact hR _ _ _ _ (Option.some.inj hP) rfl dX11_leave_22
theorem c_X11_leave (l : Launch) (S : Sx) {r : Int32 × Wd} {F : Nat} {w : Wd} {x1 : Int32}  (h : P_X11_leave F w x1 = some r) : Met l yX11_leave (wsg yX11_leave cX11_leave 2 (some .int)) rm_X11_leave (PC S w [rf S 88, .int x1]) (QCi S r) 0 0 (Aw S) :=
  met_i (by decide) rfl (Nat.le_of_ble_eq_true rfl) ⟨rfl, rfl⟩ (fun X hX hR => s_X11_leave  hX hR h)

-- MustNotStopModel.mend(I)I
abbrev rm_X11_mend : Room := { frames := 3, cells := 0, slots := 0, locals := 110 }
theorem nk_X11_mend : MNk yX11_mend RX11 1 := ⟨rfl, by decide, by decide, by decide +kernel⟩
def P_X11_mend (F : Nat) (w : Wd) (x1 : Int32) : Option (Int32 × Wd) := lt (sI w 88 0 0) (fun w2 => bnv (P_X11_putsBy F w2 ) (fun w3 => bnd (P_X11_mends F w3 x1) (fun x5 w4 => bnd (P_X11_counts F w4 x5) (fun x7 w6 => some (x7, w6)))))
set_option maxRecDepth 100000 in
set_option maxHeartbeats 4000000 in
theorem s_X11_mend {X : Cx} {S : Sx} {r : Int32 × Wd} {F : Nat} {w : Wd} {x1 : Int32}  (hX : Ok X S cX11_mend RX11 2 rm_X11_mend) (hR : HRt X S cX11_mend .int r) (hP : P_X11_mend F w x1 = some r) : V X S w 0 [(0, rf S 88), (1, .int x1)] [] := by
  unfold P_X11_mend at hP
  refine V_aload_n hX dX11_mend_0 0 rfl ?_
  refine V_iconst (v := 0) hX dX11_mend_1 (by decide) ?_
  refine V_putI hX fw_X11_102 tb_88 (fun _ _ _ => ⟨Nat.le_of_ble_eq_true rfl, rfl⟩) dX11_mend_2 (fun w2 ew2 => ?_)
  replace hP := lt_r ew2 hP
  refine V_aload_n hX dX11_mend_5 0 rfl ?_
  obtain ⟨w3, hcw3, hP⟩ := bnv_e hP
  refine V_callVv (As := []) (rest := []) hX mk_X11_292 nk_X11_putsBy (fun l => c_X11_putsBy l S  hcw3) tb_88 rfl ⟨rfl, rfl, Nat.le_of_ble_eq_true rfl, Nat.le_of_ble_eq_true rfl⟩ rfl rfl (Nat.le_of_ble_eq_true rfl) dX11_mend_6 ?_
  refine V_aload_n hX dX11_mend_9 0 rfl ?_
  refine V_aload_n hX dX11_mend_10 0 rfl ?_
  refine V_iload_n hX dX11_mend_11 1 rfl ?_
  obtain ⟨x5, w4, hcw4, hP⟩ := bnd_e hP
  refine V_callVi (As := [.int x1]) (rest := [rf S 88]) hX mk_X11_304 nk_X11_mends (fun l => c_X11_mends l S  hcw4) tb_88 rfl ⟨rfl, rfl, Nat.le_of_ble_eq_true rfl, Nat.le_of_ble_eq_true rfl⟩ rfl rfl (Nat.le_of_ble_eq_true rfl) dX11_mend_12 ?_
  obtain ⟨x7, w6, hcw6, hP⟩ := bnd_e hP
  refine V_callVi (As := [.int x5]) (rest := []) hX mk_X11_298 nk_X11_counts (fun l => c_X11_counts l S  hcw6) tb_88 rfl ⟨rfl, rfl, Nat.le_of_ble_eq_true rfl, Nat.le_of_ble_eq_true rfl⟩ rfl rfl (Nat.le_of_ble_eq_true rfl) dX11_mend_15 ?_
  exact hR _ _ _ _ (Option.some.inj hP) rfl dX11_mend_18
theorem c_X11_mend (l : Launch) (S : Sx) {r : Int32 × Wd} {F : Nat} {w : Wd} {x1 : Int32}  (h : P_X11_mend F w x1 = some r) : Met l yX11_mend (wsg yX11_mend cX11_mend 2 (some .int)) rm_X11_mend (PC S w [rf S 88, .int x1]) (QCi S r) 0 0 (Aw S) :=
  met_i (by decide) rfl (Nat.le_of_ble_eq_true rfl) ⟨rfl, rfl⟩ (fun X hX hR => s_X11_mend  hX hR h)

-- MustNotStopModel.goesOn([II)I
abbrev rm_X11_goesOn : Room := { frames := 7, cells := 0, slots := 0, locals := 197 }
theorem nk_X11_goesOn : MNk yX11_goesOn RX11 2 := ⟨rfl, by decide, by decide, by decide +kernel⟩
def L_X11_goesOn_5 (F : Nat) (a1 : Nat) (x2 : Int32) (k28 : Wd → Int32 → Option (Int32 × Wd)) : Nat → Wd → Int32 → Int32 → Option (Int32 × Wd)
  | 0, _, _, _ => none
  | n + 1, w, x3, x4 => (if x2 ≤ x4 then k28 w x3 else bnd (P_X11_minuteGoes F w a1) (fun x8 w7 => bnd (P_X11_flag F w7 x8) (fun x10 w9 => lt (x3 + x10 : Int32) (fun x11 => lt (x4 + 1 : Int32) (fun x12 => L_X11_goesOn_5 F a1 x2 k28 n w9 x11 x12)))))
set_option maxRecDepth 100000 in
set_option maxHeartbeats 4000000 in
theorem sL_X11_goesOn_5 {X : Cx} {S : Sx} {r : Int32 × Wd} {F : Nat} {a1 : Nat} {x2 : Int32} {k28 : Wd → Int32 → Option (Int32 × Wd)} (hX : Ok X S cX11_goesOn RX11 5 rm_X11_goesOn) (hR : HRt X S cX11_goesOn .int r) (ha1 : isIA a1 = true) (hk28 : ∀ (w : Wd) (x5 : Int32) , k28 w x5 = some r → V X S w 28 [(3, .int x5)] []) : ∀ (n : Nat) (w : Wd) (x3 : Int32) (x4 : Int32) , L_X11_goesOn_5 F a1 x2 k28 n w x3 x4 = some r → V X S w 5 [(0, rf S 88), (1, rf S a1), (2, .int x2), (3, .int x3), (4, .int x4)] [] := by
  intro n
  induction n with
  | zero =>
    intro w x3 x4  hP
    exact nn hP
  | succ n ih =>
    intro w x3 x4  hP
    rw [L_X11_goesOn_5] at hP
    refine V_iload hX dX11_goesOn_5 4 rfl ?_
    refine V_iload_n hX dX11_goesOn_7 2 rfl ?_
    refine V_icmp_ge (tgt := 28) hX dX11_goesOn_8 (by decide) (fun hc6 => ?_) (fun hc6 => ?_)
    · replace hP := ite_t hc6 hP
      refine V_sub (lv' := [(3, .int x3)]) [3] rfl ?_
      exact hk28 _ _  hP
    · replace hP := ite_f hc6 hP
      refine V_iload_n hX dX11_goesOn_11 3 rfl ?_
      refine V_aload_n hX dX11_goesOn_12 0 rfl ?_
      refine V_aload_n hX dX11_goesOn_13 1 rfl ?_
      obtain ⟨x8, w7, hcw7, hP⟩ := bnd_e hP
      refine V_callVi (As := [rf S a1]) (rest := [.int x3]) hX mk_X11_307 nk_X11_minuteGoes (fun l => c_X11_minuteGoes l S ha1 hcw7) tb_88 rfl ⟨rfl, rfl, Nat.le_of_ble_eq_true rfl, Nat.le_of_ble_eq_true rfl⟩ rfl rfl (Nat.le_of_ble_eq_true rfl) dX11_goesOn_14 ?_
      obtain ⟨x10, w9, hcw9, hP⟩ := bnd_e hP
      refine V_callSi (As := [.int x8]) (rest := [.int x3]) hX mk_X11_138 nk_X11_flag (fun l => c_X11_flag l S  hcw9) ⟨rfl, rfl, Nat.le_of_ble_eq_true rfl, Nat.le_of_ble_eq_true rfl⟩ rfl rfl (Nat.le_of_ble_eq_true rfl) dX11_goesOn_17 ?_
      refine V_iadd hX dX11_goesOn_20 ?_
      refine V_topi (fun x11 ex11 => ?_)
      replace hP := lt_r ex11 hP
      refine V_istore_n (lv' := [(3, .int x11), (0, rf S 88), (1, rf S a1), (2, .int x2), (4, .int x4)]) hX dX11_goesOn_21 (by decide) rfl ?_
      obtain ⟨x12, ex12⟩ : ∃ y : Int32, y = x4 + 1 := ⟨_, rfl⟩
      replace hP := lt_r ex12 hP
      refine V_iinc (v := x12) (lv' := [(4, .int x12), (3, .int x11), (0, rf S 88), (1, rf S a1), (2, .int x2)]) hX dX11_goesOn_22 (j := 4) rfl (by decide) (by rw [ex12]; rfl) rfl ?_
      refine V_goto (tgt := 5) hX dX11_goesOn_25 (by decide) ?_
      refine V_sub (lv' := [(0, rf S 88), (1, rf S a1), (2, .int x2), (3, .int x11), (4, .int x12)]) [2, 3, 4, 1, 0] rfl ?_
      exact ih _ _ _  hP
def P_X11_goesOn (F : Nat) (w : Wd) (a1 : Nat) (x2 : Int32) : Option (Int32 × Wd) := L_X11_goesOn_5 F a1 x2 (fun w x5 => some (x5, w)) F w 0 0
set_option maxRecDepth 100000 in
set_option maxHeartbeats 4000000 in
theorem s_X11_goesOn {X : Cx} {S : Sx} {r : Int32 × Wd} {F : Nat} {w : Wd} {a1 : Nat} {x2 : Int32} (ha1 : isIA a1 = true) (hX : Ok X S cX11_goesOn RX11 5 rm_X11_goesOn) (hR : HRt X S cX11_goesOn .int r) (hP : P_X11_goesOn F w a1 x2 = some r) : V X S w 0 [(0, rf S 88), (1, rf S a1), (2, .int x2)] [] := by
  unfold P_X11_goesOn at hP
  refine V_iconst (v := 0) hX dX11_goesOn_0 (by decide) ?_
  refine V_istore_n (lv' := [(3, .int 0), (0, rf S 88), (1, rf S a1), (2, .int x2)]) hX dX11_goesOn_1 (by decide) rfl ?_
  refine V_iconst (v := 0) hX dX11_goesOn_2 (by decide) ?_
  refine V_istore (lv' := [(4, .int 0), (3, .int 0), (0, rf S 88), (1, rf S a1), (2, .int x2)]) hX dX11_goesOn_3 (by decide) rfl ?_
  refine V_sub (lv' := [(0, rf S 88), (1, rf S a1), (2, .int x2), (3, .int 0), (4, .int 0)]) [2, 3, 4, 1, 0] rfl ?_
  have k13 : ∀ (w : Wd) (x5 : Int32) , (some (x5, w)) = some r → V X S w 28 [(3, .int x5)] [] := by
    intro w x5  hP
    refine V_iload_n hX dX11_goesOn_28 0 rfl ?_
    exact hR _ _ _ _ (Option.some.inj hP) rfl dX11_goesOn_29
  exact sL_X11_goesOn_5 hX hR ha1 k13 F _ _ _  hP
theorem c_X11_goesOn (l : Launch) (S : Sx) {r : Int32 × Wd} {F : Nat} {w : Wd} {a1 : Nat} {x2 : Int32} (ha1 : isIA a1 = true) (h : P_X11_goesOn F w a1 x2 = some r) : Met l yX11_goesOn (wsg yX11_goesOn cX11_goesOn 5 (some .int)) rm_X11_goesOn (PC S w [rf S 88, rf S a1, .int x2]) (QCi S r) 0 0 (Aw S) :=
  met_i (by decide) rfl (Nat.le_of_ble_eq_true rfl) ⟨rfl, rfl⟩ (fun X hX hR => s_X11_goesOn ha1 hX hR h)

-- MustNotStopModel.minutes(I)I
abbrev rm_X11_minutes : Room := { frames := 8, cells := 0, slots := 0, locals := 221 }
theorem nk_X11_minutes : MNk yX11_minutes RX11 1 := ⟨rfl, by decide, by decide, by decide +kernel⟩
def P_X11_minutes (F : Nat) (w : Wd) (x1 : Int32) : Option (Int32 × Wd) := lt (sI w 88 0 0) (fun w2 => bnd (P_X11_in F w2 (Int32.toInt64 x1) 0 120) (fun x4 w3 => (if x4 = 0 then some ((-1), w3) else bnv (P_X11_putsBy F w3 ) (fun w6 => gd (inB 13 16) (lt (gI w6 95 13 : Int32) (fun x8 => gd (inB 15 16) (lt (gI w6 95 15 : Int32) (fun x10 => bnd (P_X11_goesOn F w6 95 x1) (fun x12 w11 => lt (sI w11 88 1 0) (fun w13 => gd (inB 13 16) (bnv (P_X11_enters F w13 (Int32.toInt64 ((gI w13 95 13) - x8))) (fun w15 => gd (inB 15 16) (bnv (P_X11_enters F w15 (Int32.toInt64 ((gI w15 95 15) &&& (x10 ^^^ ((-1)))))) (fun w17 => bnd (P_X11_adds F w17 x12) (fun x19 w18 => some (x19, w18))))))))))))))))
set_option maxRecDepth 100000 in
set_option maxHeartbeats 4000000 in
theorem s_X11_minutes {X : Cx} {S : Sx} {r : Int32 × Wd} {F : Nat} {w : Wd} {x1 : Int32}  (hX : Ok X S cX11_minutes RX11 5 rm_X11_minutes) (hR : HRt X S cX11_minutes .int r) (hP : P_X11_minutes F w x1 = some r) : V X S w 0 [(0, rf S 88), (1, .int x1)] [] := by
  unfold P_X11_minutes at hP
  refine V_aload_n hX dX11_minutes_0 0 rfl ?_
  refine V_iconst (v := 0) hX dX11_minutes_1 (by decide) ?_
  refine V_putI hX fw_X11_102 tb_88 (fun _ _ _ => ⟨Nat.le_of_ble_eq_true rfl, rfl⟩) dX11_minutes_2 (fun w2 ew2 => ?_)
  replace hP := lt_r ew2 hP
  refine V_iload_n hX dX11_minutes_5 1 rfl ?_
  refine V_i2l hX dX11_minutes_6 ?_
  refine V_lconst (v := 0) hX dX11_minutes_7 rfl ?_
  refine V_ldc2 (v := 120) hX dX11_minutes_8 cn_X11_311 ?_
  obtain ⟨x4, w3, hcw3, hP⟩ := bnd_e hP
  refine V_callSi (As := [.long (Int32.toInt64 x1), .long 0, .long 120]) (rest := []) hX mk_X11_116 nk_X11_in (fun l => c_X11_in l S  hcw3) ⟨rfl, rfl, Nat.le_of_ble_eq_true rfl, Nat.le_of_ble_eq_true rfl⟩ rfl rfl (Nat.le_of_ble_eq_true rfl) dX11_minutes_11 ?_
  refine V_if_ne (tgt := 19) hX dX11_minutes_14 (by decide) (fun hc5 => ?_) (fun hc5 => ?_)
  · replace hP := ite_f hc5 hP
    refine V_aload_n hX dX11_minutes_19 0 rfl ?_
    obtain ⟨w6, hcw6, hP⟩ := bnv_e hP
    refine V_callVv (As := []) (rest := []) hX mk_X11_292 nk_X11_putsBy (fun l => c_X11_putsBy l S  hcw6) tb_88 rfl ⟨rfl, rfl, Nat.le_of_ble_eq_true rfl, Nat.le_of_ble_eq_true rfl⟩ rfl rfl (Nat.le_of_ble_eq_true rfl) dX11_minutes_20 ?_
    refine V_aload_n hX dX11_minutes_23 0 rfl ?_
    refine V_getF (j := 95) hX fk_X11_29 tb_88 (fun _ _ _ => rfl) dX11_minutes_24 ?_
    refine V_bipush (v := 13) hX dX11_minutes_27 (by decide) ?_
    obtain ⟨hi7, hP⟩ := gd_e hP
    refine V_iald hX tb_95 hi7 dX11_minutes_29 ?_
    refine V_topi (fun x8 ex8 => ?_)
    replace hP := lt_r ex8 hP
    refine V_istore_n (lv' := [(2, .int x8), (0, rf S 88), (1, .int x1)]) hX dX11_minutes_30 (by decide) rfl ?_
    refine V_aload_n hX dX11_minutes_31 1 rfl ?_
    refine V_getF (j := 95) hX fk_X11_29 tb_88 (fun _ _ _ => rfl) dX11_minutes_32 ?_
    refine V_bipush (v := 15) hX dX11_minutes_35 (by decide) ?_
    obtain ⟨hi9, hP⟩ := gd_e hP
    refine V_iald hX tb_95 hi9 dX11_minutes_37 ?_
    refine V_topi (fun x10 ex10 => ?_)
    replace hP := lt_r ex10 hP
    refine V_istore_n (lv' := [(3, .int x10), (2, .int x8), (0, rf S 88), (1, .int x1)]) hX dX11_minutes_38 (by decide) rfl ?_
    refine V_aload_n hX dX11_minutes_39 2 rfl ?_
    refine V_aload_n hX dX11_minutes_40 2 rfl ?_
    refine V_getF (j := 95) hX fk_X11_29 tb_88 (fun _ _ _ => rfl) dX11_minutes_41 ?_
    refine V_iload_n hX dX11_minutes_44 3 rfl ?_
    obtain ⟨x12, w11, hcw11, hP⟩ := bnd_e hP
    refine V_callVi (As := [rf S 95, .int x1]) (rest := []) hX mk_X11_313 nk_X11_goesOn (fun l => c_X11_goesOn l S (by decide) hcw11) tb_88 rfl ⟨rfl, rfl, Nat.le_of_ble_eq_true rfl, Nat.le_of_ble_eq_true rfl⟩ rfl rfl (Nat.le_of_ble_eq_true rfl) dX11_minutes_45 ?_
    refine V_istore (lv' := [(4, .int x12), (3, .int x10), (2, .int x8), (0, rf S 88), (1, .int x1)]) hX dX11_minutes_48 (by decide) rfl ?_
    refine V_aload_n hX dX11_minutes_50 3 rfl ?_
    refine V_iconst (v := 0) hX dX11_minutes_51 (by decide) ?_
    refine V_putI hX fw_X11_110 tb_88 (fun _ _ _ => ⟨Nat.le_of_ble_eq_true rfl, rfl⟩) dX11_minutes_52 (fun w13 ew13 => ?_)
    replace hP := lt_r ew13 hP
    refine V_aload_n hX dX11_minutes_55 3 rfl ?_
    refine V_aload_n hX dX11_minutes_56 3 rfl ?_
    refine V_getF (j := 95) hX fk_X11_29 tb_88 (fun _ _ _ => rfl) dX11_minutes_57 ?_
    refine V_bipush (v := 13) hX dX11_minutes_60 (by decide) ?_
    obtain ⟨hi14, hP⟩ := gd_e hP
    refine V_iald hX tb_95 hi14 dX11_minutes_62 ?_
    refine V_iload_n hX dX11_minutes_63 2 rfl ?_
    refine V_isub hX dX11_minutes_64 ?_
    refine V_i2l hX dX11_minutes_65 ?_
    obtain ⟨w15, hcw15, hP⟩ := bnv_e hP
    refine V_callVv (As := [.long (Int32.toInt64 ((gI w13 95 13) - x8))]) (rest := []) hX mk_X11_316 nk_X11_enters (fun l => c_X11_enters l S  hcw15) tb_88 rfl ⟨rfl, rfl, Nat.le_of_ble_eq_true rfl, Nat.le_of_ble_eq_true rfl⟩ rfl rfl (Nat.le_of_ble_eq_true rfl) dX11_minutes_66 ?_
    refine V_aload_n hX dX11_minutes_69 3 rfl ?_
    refine V_aload_n hX dX11_minutes_70 3 rfl ?_
    refine V_getF (j := 95) hX fk_X11_29 tb_88 (fun _ _ _ => rfl) dX11_minutes_71 ?_
    refine V_bipush (v := 15) hX dX11_minutes_74 (by decide) ?_
    obtain ⟨hi16, hP⟩ := gd_e hP
    refine V_iald hX tb_95 hi16 dX11_minutes_76 ?_
    refine V_iload_n hX dX11_minutes_77 1 rfl ?_
    refine V_iconst (v := (-1)) hX dX11_minutes_78 (by decide) ?_
    refine V_ixor hX dX11_minutes_79 ?_
    refine V_iand hX dX11_minutes_80 ?_
    refine V_i2l hX dX11_minutes_81 ?_
    obtain ⟨w17, hcw17, hP⟩ := bnv_e hP
    refine V_callVv (As := [.long (Int32.toInt64 ((gI w15 95 15) &&& (x10 ^^^ ((-1)))))]) (rest := []) hX mk_X11_316 nk_X11_enters (fun l => c_X11_enters l S  hcw17) tb_88 rfl ⟨rfl, rfl, Nat.le_of_ble_eq_true rfl, Nat.le_of_ble_eq_true rfl⟩ rfl rfl (Nat.le_of_ble_eq_true rfl) dX11_minutes_82 ?_
    refine V_aload_n hX dX11_minutes_85 3 rfl ?_
    refine V_iload hX dX11_minutes_86 0 rfl ?_
    obtain ⟨x19, w18, hcw18, hP⟩ := bnd_e hP
    refine V_callVi (As := [.int x12]) (rest := []) hX mk_X11_283 nk_X11_adds (fun l => c_X11_adds l S  hcw18) tb_88 rfl ⟨rfl, rfl, Nat.le_of_ble_eq_true rfl, Nat.le_of_ble_eq_true rfl⟩ rfl rfl (Nat.le_of_ble_eq_true rfl) dX11_minutes_88 ?_
    exact hR _ _ _ _ (Option.some.inj hP) rfl dX11_minutes_91
  · replace hP := ite_t hc5 hP
    refine V_iconst (v := (-1)) hX dX11_minutes_17 (by decide) ?_
    exact hR _ _ _ _ (Option.some.inj hP) rfl dX11_minutes_18
theorem c_X11_minutes (l : Launch) (S : Sx) {r : Int32 × Wd} {F : Nat} {w : Wd} {x1 : Int32}  (h : P_X11_minutes F w x1 = some r) : Met l yX11_minutes (wsg yX11_minutes cX11_minutes 5 (some .int)) rm_X11_minutes (PC S w [rf S 88, .int x1]) (QCi S r) 0 0 (Aw S) :=
  met_i (by decide) rfl (Nat.le_of_ble_eq_true rfl) ⟨rfl, rfl⟩ (fun X hX hR => s_X11_minutes  hX hR h)

-- MustNotStopModel.readsAct()Z
abbrev rm_X11_readsAct : Room := { frames := 7, cells := 0, slots := 0, locals := 193 }
theorem nk_X11_readsAct : MNk yX11_readsAct RX11 0 := ⟨rfl, by decide, by decide, by decide +kernel⟩
def K_X11_readsAct_85 (F : Nat)   (w : Wd) (x21 : Int32) : Option (Int32 × Wd) := gd (inB x21 60) (lt (if (gI w 105 x21.toNatClampNeg) < 0 then 0 else 1 : Int32) (fun x24 => gd (isZO x24) (some (x24, w))))
set_option maxRecDepth 100000 in
set_option maxHeartbeats 4000000 in
theorem sK_X11_readsAct_85 {X : Cx} {S : Sx} {r : Int32 × Wd} {F : Nat}   {w : Wd} {x21 : Int32} (hX : Ok X S cX11_readsAct RX11 2 rm_X11_readsAct) (hR : HRt X S cX11_readsAct .boolean r)    (hP : K_X11_readsAct_85 F   w x21 = some r) : V X S w 85 [(0, rf S 88), (1, .int x21)] [] := by
  unfold K_X11_readsAct_85 at hP
  refine V_aload_n hX dX11_readsAct_85 0 rfl ?_
  refine V_getF (j := 105) hX fk_X11_59 tb_88 (fun _ _ _ => rfl) dX11_readsAct_86 ?_
  refine V_iload_n hX dX11_readsAct_89 1 rfl ?_
  obtain ⟨hi22, hP⟩ := gd_e hP
  refine V_iald hX tb_105 hi22 dX11_readsAct_90 ?_
  have k26 : V X S w 99 [(0, rf S 88), (1, .int x21)] [.int (if (gI w 105 x21.toNatClampNeg) < 0 then 0 else 1)] := by
    refine V_topi (fun x24 ex24 => ?_)
    replace hP := lt_r ex24 hP
    obtain ⟨hz25, hP⟩ := gd_e hP
    exact hR _ _ _ _ (Option.some.inj hP) (nar_z hz25) dX11_readsAct_99
  refine V_if_lt (tgt := 98) hX dX11_readsAct_91 (by decide) (fun hc23 => ?_) (fun hc23 => ?_)
  · refine V_iconst (v := 0) hX dX11_readsAct_98 (by decide) ?_
    refine V_selT (c := (gI w 105 x21.toNatClampNeg) < 0) (b := 1) hc23 ?_
    exact k26
  · refine V_iconst (v := 1) hX dX11_readsAct_94 (by decide) ?_
    refine V_goto (tgt := 99) hX dX11_readsAct_95 (by decide) ?_
    refine V_selF (c := (gI w 105 x21.toNatClampNeg) < 0) (a := 0) hc23 ?_
    exact k26
def K_X11_readsAct_62 (F : Nat)   (w : Wd) (x12 : Int32) (x13 : Int32) (x14 : Int32) : Option (Int32 × Wd) := bnd (P_X11_number F w x13) (fun x16 w15 => gd (inB x14 60) (lt (sI w15 105 x14.toNatClampNeg x16) (fun w18 => gd (inB x12 60) ((if (gI w18 105 x12.toNatClampNeg) < 0 then K_X11_readsAct_85 F   w18 x12 else gd (inB x12 60) ((if (gI w18 104 x12.toNatClampNeg) = 2 then bnd (P_X11_number F w18 1) (fun x30 w29 => gd (inB x12 60) (lt (sI w29 106 x12.toNatClampNeg x30) (fun w32 => gd (inB x12 60) (lt (if (gI w32 106 x12.toNatClampNeg) < 0 then 0 else 1 : Int32) (fun x35 => gd (isZO x35) (some (x35, w32))))))) else K_X11_readsAct_85 F   w18 x12)))))))
set_option maxRecDepth 100000 in
set_option maxHeartbeats 4000000 in
theorem sK_X11_readsAct_62 {X : Cx} {S : Sx} {r : Int32 × Wd} {F : Nat}   {w : Wd} {x12 : Int32} {x13 : Int32} {x14 : Int32} (hX : Ok X S cX11_readsAct RX11 2 rm_X11_readsAct) (hR : HRt X S cX11_readsAct .boolean r)    (hP : K_X11_readsAct_62 F   w x12 x13 x14 = some r) : V X S w 62 [(0, rf S 88), (1, .int x12)] [.int x13, rf S 88, .int x14, rf S 105] := by
  unfold K_X11_readsAct_62 at hP
  obtain ⟨x16, w15, hcw15, hP⟩ := bnd_e hP
  refine V_callVi (As := [.int x13]) (rest := [.int x14, rf S 105]) hX mk_X11_172 nk_X11_number (fun l => c_X11_number l S  hcw15) tb_88 rfl ⟨rfl, rfl, Nat.le_of_ble_eq_true rfl, Nat.le_of_ble_eq_true rfl⟩ rfl rfl (Nat.le_of_ble_eq_true rfl) dX11_readsAct_62 ?_
  obtain ⟨hi17, hP⟩ := gd_e hP
  refine V_iast hX tb_105 hi17 dX11_readsAct_65 (fun w18 ew18 => ?_)
  replace hP := lt_r ew18 hP
  refine V_aload_n hX dX11_readsAct_66 0 rfl ?_
  refine V_getF (j := 105) hX fk_X11_59 tb_88 (fun _ _ _ => rfl) dX11_readsAct_67 ?_
  refine V_iload_n hX dX11_readsAct_70 1 rfl ?_
  obtain ⟨hi19, hP⟩ := gd_e hP
  refine V_iald hX tb_105 hi19 dX11_readsAct_71 ?_
  refine V_if_lt (tgt := 85) hX dX11_readsAct_72 (by decide) (fun hc20 => ?_) (fun hc20 => ?_)
  · replace hP := ite_t hc20 hP
    exact sK_X11_readsAct_85 hX hR    hP
  · replace hP := ite_f hc20 hP
    refine V_aload_n hX dX11_readsAct_75 0 rfl ?_
    refine V_getF (j := 104) hX fk_X11_56 tb_88 (fun _ _ _ => rfl) dX11_readsAct_76 ?_
    refine V_iload_n hX dX11_readsAct_79 1 rfl ?_
    obtain ⟨hi27, hP⟩ := gd_e hP
    refine V_iald hX tb_104 hi27 dX11_readsAct_80 ?_
    refine V_iconst (v := 2) hX dX11_readsAct_81 (by decide) ?_
    refine V_icmp_eq (tgt := 100) hX dX11_readsAct_82 (by decide) (fun hc28 => ?_) (fun hc28 => ?_)
    · replace hP := ite_t hc28 hP
      refine V_aload_n hX dX11_readsAct_100 0 rfl ?_
      refine V_getF (j := 106) hX fk_X11_62 tb_88 (fun _ _ _ => rfl) dX11_readsAct_101 ?_
      refine V_iload_n hX dX11_readsAct_104 1 rfl ?_
      refine V_aload_n hX dX11_readsAct_105 0 rfl ?_
      refine V_iconst (v := 1) hX dX11_readsAct_106 (by decide) ?_
      obtain ⟨x30, w29, hcw29, hP⟩ := bnd_e hP
      refine V_callVi (As := [.int 1]) (rest := [.int x12, rf S 106]) hX mk_X11_172 nk_X11_number (fun l => c_X11_number l S  hcw29) tb_88 rfl ⟨rfl, rfl, Nat.le_of_ble_eq_true rfl, Nat.le_of_ble_eq_true rfl⟩ rfl rfl (Nat.le_of_ble_eq_true rfl) dX11_readsAct_107 ?_
      obtain ⟨hi31, hP⟩ := gd_e hP
      refine V_iast hX tb_106 hi31 dX11_readsAct_110 (fun w32 ew32 => ?_)
      replace hP := lt_r ew32 hP
      refine V_aload_n hX dX11_readsAct_111 0 rfl ?_
      refine V_getF (j := 106) hX fk_X11_62 tb_88 (fun _ _ _ => rfl) dX11_readsAct_112 ?_
      refine V_iload_n hX dX11_readsAct_115 1 rfl ?_
      obtain ⟨hi33, hP⟩ := gd_e hP
      refine V_iald hX tb_106 hi33 dX11_readsAct_116 ?_
      have k37 : V X S w32 125 [(0, rf S 88), (1, .int x12)] [.int (if (gI w32 106 x12.toNatClampNeg) < 0 then 0 else 1)] := by
        refine V_topi (fun x35 ex35 => ?_)
        replace hP := lt_r ex35 hP
        obtain ⟨hz36, hP⟩ := gd_e hP
        exact hR _ _ _ _ (Option.some.inj hP) (nar_z hz36) dX11_readsAct_125
      refine V_if_lt (tgt := 124) hX dX11_readsAct_117 (by decide) (fun hc34 => ?_) (fun hc34 => ?_)
      · refine V_iconst (v := 0) hX dX11_readsAct_124 (by decide) ?_
        refine V_selT (c := (gI w32 106 x12.toNatClampNeg) < 0) (b := 1) hc34 ?_
        exact k37
      · refine V_iconst (v := 1) hX dX11_readsAct_120 (by decide) ?_
        refine V_goto (tgt := 125) hX dX11_readsAct_121 (by decide) ?_
        refine V_selF (c := (gI w32 106 x12.toNatClampNeg) < 0) (a := 0) hc34 ?_
        exact k37
    · replace hP := ite_f hc28 hP
      exact sK_X11_readsAct_85 hX hR    hP
def P_X11_readsAct (F : Nat) (w : Wd)  : Option (Int32 × Wd) := lt (gI w 88 31 : Int32) (fun x1 => bnd (P_X11_takesOf F w 5) (fun x3 w2 => gd (inB x1 60) (lt (sI w2 104 x1.toNatClampNeg x3) (fun w5 => lt (sI w5 88 31 ((gI w5 88 31) + 1)) (fun w6 => gd (inB x1 60) ((if (0 : Int32) ≤ (gI w6 104 x1.toNatClampNeg) then gd (inB x1 60) (lt (if (gI w6 104 x1.toNatClampNeg) = 3 then 2 else 1 : Int32) (fun x11 => K_X11_readsAct_62 F   w6 x1 x11 x1)) else K_X11_readsAct_62 F   w6 x1 3 x1)))))))
set_option maxRecDepth 100000 in
set_option maxHeartbeats 4000000 in
theorem s_X11_readsAct {X : Cx} {S : Sx} {r : Int32 × Wd} {F : Nat} {w : Wd}   (hX : Ok X S cX11_readsAct RX11 2 rm_X11_readsAct) (hR : HRt X S cX11_readsAct .boolean r) (hP : P_X11_readsAct F w  = some r) : V X S w 0 [(0, rf S 88)] [] := by
  unfold P_X11_readsAct at hP
  refine V_aload_n hX dX11_readsAct_0 0 rfl ?_
  refine V_getI hX fk_X11_320 tb_88 (fun _ _ _ => rfl) dX11_readsAct_1 ?_
  refine V_topi (fun x1 ex1 => ?_)
  replace hP := lt_r ex1 hP
  refine V_istore_n (lv' := [(1, .int x1), (0, rf S 88)]) hX dX11_readsAct_4 (by decide) rfl ?_
  refine V_aload_n hX dX11_readsAct_5 1 rfl ?_
  refine V_getF (j := 104) hX fk_X11_56 tb_88 (fun _ _ _ => rfl) dX11_readsAct_6 ?_
  refine V_iload_n hX dX11_readsAct_9 0 rfl ?_
  refine V_aload_n hX dX11_readsAct_10 1 rfl ?_
  refine V_ldcwS (k := 5) (tx := "tlcm") hX dX11_readsAct_11 (fun s h => h.2.2.2.1.2.2.2.2.2.2) ?_
  obtain ⟨x3, w2, hcw2, hP⟩ := bnd_e hP
  refine V_callVi (As := [.ref (adK S 5)]) (rest := [.int x1, rf S 104]) hX mk_X11_169 nk_X11_takesOf (fun l => c_X11_takesOf l S (by decide) hcw2) tb_88 rfl ⟨rfl, rfl, Nat.le_of_ble_eq_true rfl, Nat.le_of_ble_eq_true rfl⟩ rfl rfl (Nat.le_of_ble_eq_true rfl) dX11_readsAct_14 ?_
  obtain ⟨hi4, hP⟩ := gd_e hP
  refine V_iast hX tb_104 hi4 dX11_readsAct_17 (fun w5 ew5 => ?_)
  replace hP := lt_r ew5 hP
  refine V_aload_n hX dX11_readsAct_18 1 rfl ?_
  refine V_dup hX dX11_readsAct_19 rfl ?_
  refine V_getI hX fk_X11_320 tb_88 (fun _ _ _ => rfl) dX11_readsAct_20 ?_
  refine V_iconst (v := 1) hX dX11_readsAct_23 (by decide) ?_
  refine V_iadd hX dX11_readsAct_24 ?_
  refine V_putI hX fw_X11_320 tb_88 (fun _ _ _ => ⟨Nat.le_of_ble_eq_true rfl, rfl⟩) dX11_readsAct_25 (fun w6 ew6 => ?_)
  replace hP := lt_r ew6 hP
  refine V_aload_n hX dX11_readsAct_28 1 rfl ?_
  refine V_getF (j := 105) hX fk_X11_59 tb_88 (fun _ _ _ => rfl) dX11_readsAct_29 ?_
  refine V_iload_n hX dX11_readsAct_32 0 rfl ?_
  refine V_aload_n hX dX11_readsAct_33 1 rfl ?_
  refine V_aload_n hX dX11_readsAct_34 1 rfl ?_
  refine V_getF (j := 104) hX fk_X11_56 tb_88 (fun _ _ _ => rfl) dX11_readsAct_35 ?_
  refine V_iload_n hX dX11_readsAct_38 0 rfl ?_
  obtain ⟨hi7, hP⟩ := gd_e hP
  refine V_iald hX tb_104 hi7 dX11_readsAct_39 ?_
  refine V_if_ge (tgt := 47) hX dX11_readsAct_40 (by decide) (fun hc8 => ?_) (fun hc8 => ?_)
  · replace hP := ite_t hc8 hP
    refine V_aload_n hX dX11_readsAct_47 1 rfl ?_
    refine V_getF (j := 104) hX fk_X11_56 tb_88 (fun _ _ _ => rfl) dX11_readsAct_48 ?_
    refine V_iload_n hX dX11_readsAct_51 0 rfl ?_
    obtain ⟨hi9, hP⟩ := gd_e hP
    refine V_iald hX tb_104 hi9 dX11_readsAct_52 ?_
    refine V_iconst (v := 3) hX dX11_readsAct_53 (by decide) ?_
    have k38 : V X S w6 62 [(1, .int x1), (0, rf S 88)] [.int (if (gI w6 104 x1.toNatClampNeg) = 3 then 2 else 1), rf S 88, .int x1, rf S 105] := by
      refine V_topi (fun x11 ex11 => ?_)
      replace hP := lt_r ex11 hP
      refine V_sub (lv' := [(0, rf S 88), (1, .int x1)]) [1, 0] rfl ?_
      exact sK_X11_readsAct_62 hX hR    hP
    refine V_icmp_ne (tgt := 61) hX dX11_readsAct_54 (by decide) (fun hc10 => ?_) (fun hc10 => ?_)
    · refine V_iconst (v := 1) hX dX11_readsAct_61 (by decide) ?_
      refine V_selF (c := (gI w6 104 x1.toNatClampNeg) = 3) (a := 2) hc10 ?_
      exact k38
    · refine V_iconst (v := 2) hX dX11_readsAct_57 (by decide) ?_
      refine V_goto (tgt := 62) hX dX11_readsAct_58 (by decide) ?_
      refine V_selT (c := (gI w6 104 x1.toNatClampNeg) = 3) (b := 1) hc10 ?_
      exact k38
  · replace hP := ite_f hc8 hP
    refine V_iconst (v := 3) hX dX11_readsAct_43 (by decide) ?_
    refine V_goto (tgt := 62) hX dX11_readsAct_44 (by decide) ?_
    refine V_sub (lv' := [(0, rf S 88), (1, .int x1)]) [1, 0] rfl ?_
    exact sK_X11_readsAct_62 hX hR    hP
theorem c_X11_readsAct (l : Launch) (S : Sx) {r : Int32 × Wd} {F : Nat} {w : Wd}   (h : P_X11_readsAct F w  = some r) : Met l yX11_readsAct (wsg yX11_readsAct cX11_readsAct 2 (some .boolean)) rm_X11_readsAct (PC S w [rf S 88]) (QCi S r) 0 0 (Aw S) :=
  met_i (by decide) rfl (Nat.le_of_ble_eq_true rfl) ⟨rfl, rfl⟩ (fun X hX hR => s_X11_readsAct  hX hR h)

-- MustNotStopModel.changes(II)Z
abbrev rm_X11_changes : Room := { frames := 4, cells := 0, slots := 0, locals := 132 }
theorem nk_X11_changes : MNk yX11_changes RX11 2 := ⟨rfl, by decide, by decide, by decide +kernel⟩
def K_X11_changes_37 (F : Nat) (x1 : Int32) (x2 : Int32)  (w : Wd) (x9 : Int32) (x10 : Int32) : Option (Int32 × Wd) := (if x10 = 0 then gd (inB 8 16) (lt (sI w 95 8 x9) (fun w13 => gd (isZO x10) (some (x10, w13)))) else gd (inB 8 16) (gd (inB 8 16) (lt (sI w 95 8 (gI w 95 8)) (fun w17 => gd (isZO x10) (some (x10, w17))))))
set_option maxRecDepth 100000 in
set_option maxHeartbeats 4000000 in
theorem sK_X11_changes_37 {X : Cx} {S : Sx} {r : Int32 × Wd} {F : Nat} {x1 : Int32} {x2 : Int32}  {w : Wd} {x9 : Int32} {x10 : Int32} (hX : Ok X S cX11_changes RX11 5 rm_X11_changes) (hR : HRt X S cX11_changes .boolean r)    (hP : K_X11_changes_37 F x1 x2  w x9 x10 = some r) : V X S w 37 [(0, rf S 88), (3, .int x9)] [.int x10] := by
  unfold K_X11_changes_37 at hP
  refine V_istore (lv' := [(4, .int x10), (0, rf S 88), (3, .int x9)]) hX dX11_changes_37 (by decide) rfl ?_
  refine V_aload_n hX dX11_changes_39 1 rfl ?_
  refine V_getF (j := 95) hX fk_X11_29 tb_88 (fun _ _ _ => rfl) dX11_changes_40 ?_
  refine V_bipush (v := 8) hX dX11_changes_43 (by decide) ?_
  refine V_iload hX dX11_changes_45 0 rfl ?_
  refine V_if_eq (tgt := 60) hX dX11_changes_47 (by decide) (fun hc11 => ?_) (fun hc11 => ?_)
  · replace hP := ite_t hc11 hP
    refine V_iload_n hX dX11_changes_60 2 rfl ?_
    obtain ⟨hi12, hP⟩ := gd_e hP
    refine V_iast hX tb_95 hi12 dX11_changes_61 (fun w13 ew13 => ?_)
    replace hP := lt_r ew13 hP
    refine V_iload hX dX11_changes_62 0 rfl ?_
    obtain ⟨hz14, hP⟩ := gd_e hP
    exact hR _ _ _ _ (Option.some.inj hP) (nar_z hz14) dX11_changes_64
  · replace hP := ite_f hc11 hP
    refine V_aload_n hX dX11_changes_50 1 rfl ?_
    refine V_getF (j := 95) hX fk_X11_29 tb_88 (fun _ _ _ => rfl) dX11_changes_51 ?_
    refine V_bipush (v := 8) hX dX11_changes_54 (by decide) ?_
    obtain ⟨hi15, hP⟩ := gd_e hP
    refine V_iald hX tb_95 hi15 dX11_changes_56 ?_
    refine V_goto (tgt := 61) hX dX11_changes_57 (by decide) ?_
    obtain ⟨hi16, hP⟩ := gd_e hP
    refine V_iast hX tb_95 hi16 dX11_changes_61 (fun w17 ew17 => ?_)
    replace hP := lt_r ew17 hP
    refine V_iload hX dX11_changes_62 0 rfl ?_
    obtain ⟨hz18, hP⟩ := gd_e hP
    exact hR _ _ _ _ (Option.some.inj hP) (nar_z hz18) dX11_changes_64
def K_X11_changes_36 (F : Nat) (x1 : Int32) (x2 : Int32)  (w : Wd) (x8 : Int32) : Option (Int32 × Wd) := K_X11_changes_37 F x1 x2  w x8 0
set_option maxRecDepth 100000 in
set_option maxHeartbeats 4000000 in
theorem sK_X11_changes_36 {X : Cx} {S : Sx} {r : Int32 × Wd} {F : Nat} {x1 : Int32} {x2 : Int32}  {w : Wd} {x8 : Int32} (hX : Ok X S cX11_changes RX11 5 rm_X11_changes) (hR : HRt X S cX11_changes .boolean r)    (hP : K_X11_changes_36 F x1 x2  w x8 = some r) : V X S w 36 [(0, rf S 88), (3, .int x8)] [] := by
  unfold K_X11_changes_36 at hP
  refine V_iconst (v := 0) hX dX11_changes_36 (by decide) ?_
  exact sK_X11_changes_37 hX hR    hP
def P_X11_changes (F : Nat) (w : Wd) (x1 : Int32) (x2 : Int32) : Option (Int32 × Wd) := gd (inB 8 16) (lt (gI w 95 8 : Int32) (fun x4 => bnd (P_X11_leaves F w 95 x1) (fun x6 w5 => (if x6 < 0 then K_X11_changes_36 F x1 x2  w5 x4 else bnd (P_X11_takes F w5 95 x2) (fun x20 w19 => lt (if x20 < 0 then 0 else 1 : Int32) (fun x22 => (if x22 = 0 then gd (inB 8 16) (lt (sI w19 95 8 x4) (fun w25 => gd (isZO x22) (some (x22, w25)))) else gd (inB 8 16) (gd (inB 8 16) (lt (sI w19 95 8 (gI w19 95 8)) (fun w29 => gd (isZO x22) (some (x22, w29))))))))))))
set_option maxRecDepth 100000 in
set_option maxHeartbeats 4000000 in
theorem s_X11_changes {X : Cx} {S : Sx} {r : Int32 × Wd} {F : Nat} {w : Wd} {x1 : Int32} {x2 : Int32}  (hX : Ok X S cX11_changes RX11 5 rm_X11_changes) (hR : HRt X S cX11_changes .boolean r) (hP : P_X11_changes F w x1 x2 = some r) : V X S w 0 [(0, rf S 88), (1, .int x1), (2, .int x2)] [] := by
  unfold P_X11_changes at hP
  refine V_aload_n hX dX11_changes_0 0 rfl ?_
  refine V_getF (j := 95) hX fk_X11_29 tb_88 (fun _ _ _ => rfl) dX11_changes_1 ?_
  refine V_bipush (v := 8) hX dX11_changes_4 (by decide) ?_
  obtain ⟨hi3, hP⟩ := gd_e hP
  refine V_iald hX tb_95 hi3 dX11_changes_6 ?_
  refine V_topi (fun x4 ex4 => ?_)
  replace hP := lt_r ex4 hP
  refine V_istore_n (lv' := [(3, .int x4), (0, rf S 88), (1, .int x1), (2, .int x2)]) hX dX11_changes_7 (by decide) rfl ?_
  refine V_aload_n hX dX11_changes_8 1 rfl ?_
  refine V_aload_n hX dX11_changes_9 1 rfl ?_
  refine V_getF (j := 95) hX fk_X11_29 tb_88 (fun _ _ _ => rfl) dX11_changes_10 ?_
  refine V_iload_n hX dX11_changes_13 2 rfl ?_
  obtain ⟨x6, w5, hcw5, hP⟩ := bnd_e hP
  refine V_callVi (As := [rf S 95, .int x1]) (rest := []) hX mk_X11_301 nk_X11_leaves (fun l => c_X11_leaves l S (by decide) hcw5) tb_88 rfl ⟨rfl, rfl, Nat.le_of_ble_eq_true rfl, Nat.le_of_ble_eq_true rfl⟩ rfl rfl (Nat.le_of_ble_eq_true rfl) dX11_changes_14 ?_
  refine V_if_lt (tgt := 36) hX dX11_changes_17 (by decide) (fun hc7 => ?_) (fun hc7 => ?_)
  · replace hP := ite_t hc7 hP
    refine V_sub (lv' := [(0, rf S 88), (3, .int x4)]) [1, 0] rfl ?_
    exact sK_X11_changes_36 hX hR    hP
  · replace hP := ite_f hc7 hP
    refine V_aload_n hX dX11_changes_20 1 rfl ?_
    refine V_aload_n hX dX11_changes_21 1 rfl ?_
    refine V_getF (j := 95) hX fk_X11_29 tb_88 (fun _ _ _ => rfl) dX11_changes_22 ?_
    refine V_iload_n hX dX11_changes_25 3 rfl ?_
    obtain ⟨x20, w19, hcw19, hP⟩ := bnd_e hP
    refine V_callVi (As := [rf S 95, .int x2]) (rest := []) hX mk_X11_295 nk_X11_takes (fun l => c_X11_takes l S (by decide) hcw19) tb_88 rfl ⟨rfl, rfl, Nat.le_of_ble_eq_true rfl, Nat.le_of_ble_eq_true rfl⟩ rfl rfl (Nat.le_of_ble_eq_true rfl) dX11_changes_26 ?_
    have k31 : V X S w19 37 [(3, .int x4), (0, rf S 88), (1, .int x1), (2, .int x2)] [.int (if x20 < 0 then 0 else 1)] := by
      refine V_topi (fun x22 ex22 => ?_)
      replace hP := lt_r ex22 hP
      refine V_istore (lv' := [(4, .int x22), (3, .int x4), (0, rf S 88), (1, .int x1), (2, .int x2)]) hX dX11_changes_37 (by decide) rfl ?_
      refine V_aload_n hX dX11_changes_39 2 rfl ?_
      refine V_getF (j := 95) hX fk_X11_29 tb_88 (fun _ _ _ => rfl) dX11_changes_40 ?_
      refine V_bipush (v := 8) hX dX11_changes_43 (by decide) ?_
      refine V_iload hX dX11_changes_45 0 rfl ?_
      refine V_if_eq (tgt := 60) hX dX11_changes_47 (by decide) (fun hc23 => ?_) (fun hc23 => ?_)
      · replace hP := ite_t hc23 hP
        refine V_iload_n hX dX11_changes_60 1 rfl ?_
        obtain ⟨hi24, hP⟩ := gd_e hP
        refine V_iast hX tb_95 hi24 dX11_changes_61 (fun w25 ew25 => ?_)
        replace hP := lt_r ew25 hP
        refine V_iload hX dX11_changes_62 0 rfl ?_
        obtain ⟨hz26, hP⟩ := gd_e hP
        exact hR _ _ _ _ (Option.some.inj hP) (nar_z hz26) dX11_changes_64
      · replace hP := ite_f hc23 hP
        refine V_aload_n hX dX11_changes_50 2 rfl ?_
        refine V_getF (j := 95) hX fk_X11_29 tb_88 (fun _ _ _ => rfl) dX11_changes_51 ?_
        refine V_bipush (v := 8) hX dX11_changes_54 (by decide) ?_
        obtain ⟨hi27, hP⟩ := gd_e hP
        refine V_iald hX tb_95 hi27 dX11_changes_56 ?_
        refine V_goto (tgt := 61) hX dX11_changes_57 (by decide) ?_
        obtain ⟨hi28, hP⟩ := gd_e hP
        refine V_iast hX tb_95 hi28 dX11_changes_61 (fun w29 ew29 => ?_)
        replace hP := lt_r ew29 hP
        refine V_iload hX dX11_changes_62 0 rfl ?_
        obtain ⟨hz30, hP⟩ := gd_e hP
        exact hR _ _ _ _ (Option.some.inj hP) (nar_z hz30) dX11_changes_64
    refine V_if_lt (tgt := 36) hX dX11_changes_29 (by decide) (fun hc21 => ?_) (fun hc21 => ?_)
    · refine V_iconst (v := 0) hX dX11_changes_36 (by decide) ?_
      refine V_selT (c := x20 < 0) (b := 1) hc21 ?_
      exact k31
    · refine V_iconst (v := 1) hX dX11_changes_32 (by decide) ?_
      refine V_goto (tgt := 37) hX dX11_changes_33 (by decide) ?_
      refine V_selF (c := x20 < 0) (a := 0) hc21 ?_
      exact k31
theorem c_X11_changes (l : Launch) (S : Sx) {r : Int32 × Wd} {F : Nat} {w : Wd} {x1 : Int32} {x2 : Int32}  (h : P_X11_changes F w x1 x2 = some r) : Met l yX11_changes (wsg yX11_changes cX11_changes 5 (some .boolean)) rm_X11_changes (PC S w [rf S 88, .int x1, .int x2]) (QCi S r) 0 0 (Aw S) :=
  met_i (by decide) rfl (Nat.le_of_ble_eq_true rfl) ⟨rfl, rfl⟩ (fun X hX hR => s_X11_changes  hX hR h)

-- MustNotStopModel.does(I)Z
abbrev rm_X11_does : Room := { frames := 8, cells := 0, slots := 0, locals := 221 }
theorem nk_X11_does : MNk yX11_does RX11 1 := ⟨rfl, by decide, by decide, by decide +kernel⟩
def P_X11_does (F : Nat) (w : Wd) (x1 : Int32) : Option (Int32 × Wd) := gd (inB x1 60) (lt (gI w 105 x1.toNatClampNeg : Int32) (fun x3 => gd (inB x1 60) ((if (gI w 104 x1.toNatClampNeg) = 0 then bnd (P_X11_takes F w 95 x3) (fun x7 w6 => lt (if x7 < 0 then 0 else 1 : Int32) (fun x9 => gd (isZO x9) (some (x9, w6)))) else (if (gI w 104 x1.toNatClampNeg) = 1 then bnd (P_X11_leaves F w 95 x3) (fun x14 w13 => lt (if x14 < 0 then 0 else 1 : Int32) (fun x16 => gd (isZO x16) (some (x16, w13)))) else (if (gI w 104 x1.toNatClampNeg) = 2 then gd (inB x1 60) (bnd (P_X11_changes F w x3 (gI w 106 x1.toNatClampNeg)) (fun x22 w21 => gd (isZO x22) (some (x22, w21)))) else (if (gI w 104 x1.toNatClampNeg) = 3 then bnd (P_X11_mends F w x3) (fun x26 w25 => lt (if x26 < 0 then 0 else 1 : Int32) (fun x28 => gd (isZO x28) (some (x28, w25)))) else (if x3 ≤ 120 then bnd (P_X11_goesOn F w 95 x3) (fun x33 w32 => some (1, w32)) else some (0, w)))))))))
set_option maxRecDepth 100000 in
set_option maxHeartbeats 4000000 in
theorem s_X11_does {X : Cx} {S : Sx} {r : Int32 × Wd} {F : Nat} {w : Wd} {x1 : Int32}  (hX : Ok X S cX11_does RX11 3 rm_X11_does) (hR : HRt X S cX11_does .boolean r) (hP : P_X11_does F w x1 = some r) : V X S w 0 [(0, rf S 88), (1, .int x1)] [] := by
  unfold P_X11_does at hP
  refine V_aload_n hX dX11_does_0 0 rfl ?_
  refine V_getF (j := 105) hX fk_X11_59 tb_88 (fun _ _ _ => rfl) dX11_does_1 ?_
  refine V_iload_n hX dX11_does_4 1 rfl ?_
  obtain ⟨hi2, hP⟩ := gd_e hP
  refine V_iald hX tb_105 hi2 dX11_does_5 ?_
  refine V_topi (fun x3 ex3 => ?_)
  replace hP := lt_r ex3 hP
  refine V_istore_n (lv' := [(2, .int x3), (0, rf S 88), (1, .int x1)]) hX dX11_does_6 (by decide) rfl ?_
  refine V_aload_n hX dX11_does_7 1 rfl ?_
  refine V_getF (j := 104) hX fk_X11_56 tb_88 (fun _ _ _ => rfl) dX11_does_8 ?_
  refine V_iload_n hX dX11_does_11 2 rfl ?_
  obtain ⟨hi4, hP⟩ := gd_e hP
  refine V_iald hX tb_104 hi4 dX11_does_12 ?_
  by_cases hc5 : gI w 104 x1.toNatClampNeg = 0
  · replace hP := ite_t hc5 hP
    refine V_tableIn (tgt := 44) hX dX11_does_13 (by rw [hc5]; decide) (by rw [hc5]; decide) (by rw [hc5] <;> rfl) (by decide) ?_
    refine V_aload_n hX dX11_does_44 1 rfl ?_
    refine V_aload_n hX dX11_does_45 1 rfl ?_
    refine V_getF (j := 95) hX fk_X11_29 tb_88 (fun _ _ _ => rfl) dX11_does_46 ?_
    refine V_iload_n hX dX11_does_49 0 rfl ?_
    obtain ⟨x7, w6, hcw6, hP⟩ := bnd_e hP
    refine V_callVi (As := [rf S 95, .int x3]) (rest := []) hX mk_X11_295 nk_X11_takes (fun l => c_X11_takes l S (by decide) hcw6) tb_88 rfl ⟨rfl, rfl, Nat.le_of_ble_eq_true rfl, Nat.le_of_ble_eq_true rfl⟩ rfl rfl (Nat.le_of_ble_eq_true rfl) dX11_does_50 ?_
    have k11 : V X S w6 61 [(2, .int x3), (0, rf S 88), (1, .int x1)] [.int (if x7 < 0 then 0 else 1)] := by
      refine V_topi (fun x9 ex9 => ?_)
      replace hP := lt_r ex9 hP
      obtain ⟨hz10, hP⟩ := gd_e hP
      exact hR _ _ _ _ (Option.some.inj hP) (nar_z hz10) dX11_does_61
    refine V_if_lt (tgt := 60) hX dX11_does_53 (by decide) (fun hc8 => ?_) (fun hc8 => ?_)
    · refine V_iconst (v := 0) hX dX11_does_60 (by decide) ?_
      refine V_selT (c := x7 < 0) (b := 1) hc8 ?_
      exact k11
    · refine V_iconst (v := 1) hX dX11_does_56 (by decide) ?_
      refine V_goto (tgt := 61) hX dX11_does_57 (by decide) ?_
      refine V_selF (c := x7 < 0) (a := 0) hc8 ?_
      exact k11
  replace hP := ite_f hc5 hP
  by_cases hc12 : gI w 104 x1.toNatClampNeg = 1
  · replace hP := ite_t hc12 hP
    refine V_tableIn (tgt := 62) hX dX11_does_13 (by rw [hc12]; decide) (by rw [hc12]; decide) (by rw [hc12] <;> rfl) (by decide) ?_
    refine V_aload_n hX dX11_does_62 1 rfl ?_
    refine V_aload_n hX dX11_does_63 1 rfl ?_
    refine V_getF (j := 95) hX fk_X11_29 tb_88 (fun _ _ _ => rfl) dX11_does_64 ?_
    refine V_iload_n hX dX11_does_67 0 rfl ?_
    obtain ⟨x14, w13, hcw13, hP⟩ := bnd_e hP
    refine V_callVi (As := [rf S 95, .int x3]) (rest := []) hX mk_X11_301 nk_X11_leaves (fun l => c_X11_leaves l S (by decide) hcw13) tb_88 rfl ⟨rfl, rfl, Nat.le_of_ble_eq_true rfl, Nat.le_of_ble_eq_true rfl⟩ rfl rfl (Nat.le_of_ble_eq_true rfl) dX11_does_68 ?_
    have k18 : V X S w13 79 [(2, .int x3), (0, rf S 88), (1, .int x1)] [.int (if x14 < 0 then 0 else 1)] := by
      refine V_topi (fun x16 ex16 => ?_)
      replace hP := lt_r ex16 hP
      obtain ⟨hz17, hP⟩ := gd_e hP
      exact hR _ _ _ _ (Option.some.inj hP) (nar_z hz17) dX11_does_79
    refine V_if_lt (tgt := 78) hX dX11_does_71 (by decide) (fun hc15 => ?_) (fun hc15 => ?_)
    · refine V_iconst (v := 0) hX dX11_does_78 (by decide) ?_
      refine V_selT (c := x14 < 0) (b := 1) hc15 ?_
      exact k18
    · refine V_iconst (v := 1) hX dX11_does_74 (by decide) ?_
      refine V_goto (tgt := 79) hX dX11_does_75 (by decide) ?_
      refine V_selF (c := x14 < 0) (a := 0) hc15 ?_
      exact k18
  replace hP := ite_f hc12 hP
  by_cases hc19 : gI w 104 x1.toNatClampNeg = 2
  · replace hP := ite_t hc19 hP
    refine V_tableIn (tgt := 80) hX dX11_does_13 (by rw [hc19]; decide) (by rw [hc19]; decide) (by rw [hc19] <;> rfl) (by decide) ?_
    refine V_aload_n hX dX11_does_80 1 rfl ?_
    refine V_iload_n hX dX11_does_81 0 rfl ?_
    refine V_aload_n hX dX11_does_82 1 rfl ?_
    refine V_getF (j := 106) hX fk_X11_62 tb_88 (fun _ _ _ => rfl) dX11_does_83 ?_
    refine V_iload_n hX dX11_does_86 2 rfl ?_
    obtain ⟨hi20, hP⟩ := gd_e hP
    refine V_iald hX tb_106 hi20 dX11_does_87 ?_
    obtain ⟨x22, w21, hcw21, hP⟩ := bnd_e hP
    refine V_callVi (As := [.int x3, .int (gI w 106 x1.toNatClampNeg)]) (rest := []) hX mk_X11_325 nk_X11_changes (fun l => c_X11_changes l S  hcw21) tb_88 rfl ⟨rfl, rfl, Nat.le_of_ble_eq_true rfl, Nat.le_of_ble_eq_true rfl⟩ rfl rfl (Nat.le_of_ble_eq_true rfl) dX11_does_88 ?_
    obtain ⟨hz23, hP⟩ := gd_e hP
    exact hR _ _ _ _ (Option.some.inj hP) (nar_z hz23) dX11_does_91
  replace hP := ite_f hc19 hP
  by_cases hc24 : gI w 104 x1.toNatClampNeg = 3
  · replace hP := ite_t hc24 hP
    refine V_tableIn (tgt := 92) hX dX11_does_13 (by rw [hc24]; decide) (by rw [hc24]; decide) (by rw [hc24] <;> rfl) (by decide) ?_
    refine V_aload_n hX dX11_does_92 1 rfl ?_
    refine V_iload_n hX dX11_does_93 0 rfl ?_
    obtain ⟨x26, w25, hcw25, hP⟩ := bnd_e hP
    refine V_callVi (As := [.int x3]) (rest := []) hX mk_X11_304 nk_X11_mends (fun l => c_X11_mends l S  hcw25) tb_88 rfl ⟨rfl, rfl, Nat.le_of_ble_eq_true rfl, Nat.le_of_ble_eq_true rfl⟩ rfl rfl (Nat.le_of_ble_eq_true rfl) dX11_does_94 ?_
    have k30 : V X S w25 105 [(2, .int x3), (0, rf S 88), (1, .int x1)] [.int (if x26 < 0 then 0 else 1)] := by
      refine V_topi (fun x28 ex28 => ?_)
      replace hP := lt_r ex28 hP
      obtain ⟨hz29, hP⟩ := gd_e hP
      exact hR _ _ _ _ (Option.some.inj hP) (nar_z hz29) dX11_does_105
    refine V_if_lt (tgt := 104) hX dX11_does_97 (by decide) (fun hc27 => ?_) (fun hc27 => ?_)
    · refine V_iconst (v := 0) hX dX11_does_104 (by decide) ?_
      refine V_selT (c := x26 < 0) (b := 1) hc27 ?_
      exact k30
    · refine V_iconst (v := 1) hX dX11_does_100 (by decide) ?_
      refine V_goto (tgt := 105) hX dX11_does_101 (by decide) ?_
      refine V_selF (c := x26 < 0) (a := 0) hc27 ?_
      exact k30
  replace hP := ite_f hc24 hP
  refine V_tableOut (tgt := 106) hX dX11_does_13 (ts_out (fun k h1 h2 => by
      have hk : k = 0 ∨ k = 1 ∨ k = 2 ∨ k = 3 := by omega
      rcases hk with rfl | rfl | rfl | rfl
      · exact fun e => hc5 (by rw [e]; rfl)
      · exact fun e => hc12 (by rw [e]; rfl)
      · exact fun e => hc19 (by rw [e]; rfl)
      · exact fun e => hc24 (by rw [e]; rfl)
      )) (by decide) ?_
  refine V_iload_n hX dX11_does_106 0 rfl ?_
  refine V_bipush (v := 120) hX dX11_does_107 (by decide) ?_
  refine V_icmp_le (tgt := 114) hX dX11_does_109 (by decide) (fun hc31 => ?_) (fun hc31 => ?_)
  · replace hP := ite_t hc31 hP
    refine V_aload_n hX dX11_does_114 1 rfl ?_
    refine V_aload_n hX dX11_does_115 1 rfl ?_
    refine V_getF (j := 95) hX fk_X11_29 tb_88 (fun _ _ _ => rfl) dX11_does_116 ?_
    refine V_iload_n hX dX11_does_119 0 rfl ?_
    obtain ⟨x33, w32, hcw32, hP⟩ := bnd_e hP
    refine V_callVi (As := [rf S 95, .int x3]) (rest := []) hX mk_X11_313 nk_X11_goesOn (fun l => c_X11_goesOn l S (by decide) hcw32) tb_88 rfl ⟨rfl, rfl, Nat.le_of_ble_eq_true rfl, Nat.le_of_ble_eq_true rfl⟩ rfl rfl (Nat.le_of_ble_eq_true rfl) dX11_does_120 ?_
    refine V_pop hX dX11_does_123 rfl ?_
    refine V_iconst (v := 1) hX dX11_does_124 (by decide) ?_
    exact hR _ _ _ _ (Option.some.inj hP) rfl dX11_does_125
  · replace hP := ite_f hc31 hP
    refine V_iconst (v := 0) hX dX11_does_112 (by decide) ?_
    exact hR _ _ _ _ (Option.some.inj hP) rfl dX11_does_113
theorem c_X11_does (l : Launch) (S : Sx) {r : Int32 × Wd} {F : Nat} {w : Wd} {x1 : Int32}  (h : P_X11_does F w x1 = some r) : Met l yX11_does (wsg yX11_does cX11_does 3 (some .boolean)) rm_X11_does (PC S w [rf S 88, .int x1]) (QCi S r) 0 0 (Aw S) :=
  met_i (by decide) rfl (Nat.le_of_ble_eq_true rfl) ⟨rfl, rfl⟩ (fun X hX hR => s_X11_does  hX hR h)

-- MustNotStopModel.watch()I
abbrev rm_X11_watch : Room := { frames := 9, cells := 0, slots := 0, locals := 243 }
theorem nk_X11_watch : MNk yX11_watch RX11 0 := ⟨rfl, by decide, by decide, by decide +kernel⟩
def K_X11_watch_56 (F : Nat) (x7 : Int32) (k60 : Wd → Int32 → Option (Int32 × Wd)) (rc : Wd → Int32 → Int32 → Option (Int32 × Wd)) (w : Wd) (x16 : Int32) (x17 : Int32) : Option (Int32 × Wd) := rc w x16 x17
set_option maxRecDepth 100000 in
set_option maxHeartbeats 4000000 in
theorem sK_X11_watch_56 {X : Cx} {S : Sx} {r : Int32 × Wd} {F : Nat} {x7 : Int32} {k60 : Wd → Int32 → Option (Int32 × Wd)} {rc : Wd → Int32 → Int32 → Option (Int32 × Wd)} {w : Wd} {x16 : Int32} {x17 : Int32} (hX : Ok X S cX11_watch RX11 7 rm_X11_watch) (hR : HRt X S cX11_watch .int r)  (hk60 : ∀ (w : Wd) (x10 : Int32) , k60 w x10 = some r → V X S w 60 [(0, rf S 88), (1, .int x7), (2, .int x10)] []) (hrc : ∀ (w : Wd) (x8 : Int32) (x9 : Int32) , rc w x8 x9 = some r → V X S w 29 [(0, rf S 88), (1, .int x7), (2, .int x8), (3, .int x9)] [])  (hP : K_X11_watch_56 F x7 k60 rc w x16 x17 = some r) : V X S w 56 [(0, rf S 88), (1, .int x7), (2, .int x16)] [.int x17] := by
  unfold K_X11_watch_56 at hP
  refine V_istore_n (lv' := [(3, .int x17), (0, rf S 88), (1, .int x7), (2, .int x16)]) hX dX11_watch_56 (by decide) rfl ?_
  refine V_goto (tgt := 29) hX dX11_watch_57 (by decide) ?_
  refine V_sub (lv' := [(0, rf S 88), (1, .int x7), (2, .int x16), (3, .int x17)]) [1, 2, 3, 0] rfl ?_
  exact hrc _ _ _  hP
def K_X11_watch_55 (F : Nat) (x7 : Int32) (k60 : Wd → Int32 → Option (Int32 × Wd)) (rc : Wd → Int32 → Int32 → Option (Int32 × Wd)) (w : Wd) (x15 : Int32) : Option (Int32 × Wd) := K_X11_watch_56 F x7 k60 rc w x15 0
set_option maxRecDepth 100000 in
set_option maxHeartbeats 4000000 in
theorem sK_X11_watch_55 {X : Cx} {S : Sx} {r : Int32 × Wd} {F : Nat} {x7 : Int32} {k60 : Wd → Int32 → Option (Int32 × Wd)} {rc : Wd → Int32 → Int32 → Option (Int32 × Wd)} {w : Wd} {x15 : Int32} (hX : Ok X S cX11_watch RX11 7 rm_X11_watch) (hR : HRt X S cX11_watch .int r)  (hk60 : ∀ (w : Wd) (x10 : Int32) , k60 w x10 = some r → V X S w 60 [(0, rf S 88), (1, .int x7), (2, .int x10)] []) (hrc : ∀ (w : Wd) (x8 : Int32) (x9 : Int32) , rc w x8 x9 = some r → V X S w 29 [(0, rf S 88), (1, .int x7), (2, .int x8), (3, .int x9)] [])  (hP : K_X11_watch_55 F x7 k60 rc w x15 = some r) : V X S w 55 [(0, rf S 88), (1, .int x7), (2, .int x15)] [] := by
  unfold K_X11_watch_55 at hP
  refine V_iconst (v := 0) hX dX11_watch_55 (by decide) ?_
  exact sK_X11_watch_56 hX hR  hk60 hrc  hP
def L_X11_watch_29 (F : Nat) (x7 : Int32) (k60 : Wd → Int32 → Option (Int32 × Wd)) : Nat → Wd → Int32 → Int32 → Option (Int32 × Wd)
  | 0, _, _, _ => none
  | n + 1, w, x8, x9 => (if x9 = 0 then k60 w x8 else bnd (P_X11_readsAct F w ) (fun x13 w12 => (if x13 = 0 then K_X11_watch_55 F x7 k60 ((L_X11_watch_29 F x7 k60 n)) w12 x13 else bnd (P_X11_isNext F w12 59) (fun x19 w18 => lt (if x19 = 0 then 0 else 1 : Int32) (fun x21 => L_X11_watch_29 F x7 k60 n w18 x13 x21)))))
set_option maxRecDepth 100000 in
set_option maxHeartbeats 4000000 in
theorem sL_X11_watch_29 {X : Cx} {S : Sx} {r : Int32 × Wd} {F : Nat} {x7 : Int32} {k60 : Wd → Int32 → Option (Int32 × Wd)} (hX : Ok X S cX11_watch RX11 7 rm_X11_watch) (hR : HRt X S cX11_watch .int r)  (hk60 : ∀ (w : Wd) (x10 : Int32) , k60 w x10 = some r → V X S w 60 [(0, rf S 88), (1, .int x7), (2, .int x10)] []) : ∀ (n : Nat) (w : Wd) (x8 : Int32) (x9 : Int32) , L_X11_watch_29 F x7 k60 n w x8 x9 = some r → V X S w 29 [(0, rf S 88), (1, .int x7), (2, .int x8), (3, .int x9)] [] := by
  intro n
  induction n with
  | zero =>
    intro w x8 x9  hP
    exact nn hP
  | succ n ih =>
    intro w x8 x9  hP
    rw [L_X11_watch_29] at hP
    refine V_iload_n hX dX11_watch_29 3 rfl ?_
    refine V_if_eq (tgt := 60) hX dX11_watch_30 (by decide) (fun hc11 => ?_) (fun hc11 => ?_)
    · replace hP := ite_t hc11 hP
      refine V_sub (lv' := [(0, rf S 88), (1, .int x7), (2, .int x8)]) [0, 1, 2] rfl ?_
      exact hk60 _ _  hP
    · replace hP := ite_f hc11 hP
      refine V_aload_n hX dX11_watch_33 0 rfl ?_
      obtain ⟨x13, w12, hcw12, hP⟩ := bnd_e hP
      refine V_callVi (As := []) (rest := []) hX mk_X11_327 nk_X11_readsAct (fun l => c_X11_readsAct l S  hcw12) tb_88 rfl ⟨rfl, rfl, Nat.le_of_ble_eq_true rfl, Nat.le_of_ble_eq_true rfl⟩ rfl rfl (Nat.le_of_ble_eq_true rfl) dX11_watch_34 ?_
      refine V_istore_n (lv' := [(2, .int x13), (0, rf S 88), (1, .int x7), (3, .int x9)]) hX dX11_watch_37 (by decide) rfl ?_
      refine V_iload_n hX dX11_watch_38 0 rfl ?_
      refine V_if_eq (tgt := 55) hX dX11_watch_39 (by decide) (fun hc14 => ?_) (fun hc14 => ?_)
      · replace hP := ite_t hc14 hP
        refine V_sub (lv' := [(0, rf S 88), (1, .int x7), (2, .int x13)]) [1, 2, 0] rfl ?_
        exact sK_X11_watch_55 hX hR  hk60 ih  hP
      · replace hP := ite_f hc14 hP
        refine V_aload_n hX dX11_watch_42 1 rfl ?_
        refine V_bipush (v := 59) hX dX11_watch_43 (by decide) ?_
        obtain ⟨x19, w18, hcw18, hP⟩ := bnd_e hP
        refine V_callVi (As := [.int 59]) (rest := []) hX mk_X11_183 nk_X11_isNext (fun l => c_X11_isNext l S  hcw18) tb_88 rfl ⟨rfl, rfl, Nat.le_of_ble_eq_true rfl, Nat.le_of_ble_eq_true rfl⟩ rfl rfl (Nat.le_of_ble_eq_true rfl) dX11_watch_45 ?_
        have k22 : V X S w18 56 [(2, .int x13), (0, rf S 88), (1, .int x7), (3, .int x9)] [.int (if x19 = 0 then 0 else 1)] := by
          refine V_topi (fun x21 ex21 => ?_)
          replace hP := lt_r ex21 hP
          refine V_istore_n (lv' := [(3, .int x21), (2, .int x13), (0, rf S 88), (1, .int x7)]) hX dX11_watch_56 (by decide) rfl ?_
          refine V_goto (tgt := 29) hX dX11_watch_57 (by decide) ?_
          refine V_sub (lv' := [(0, rf S 88), (1, .int x7), (2, .int x13), (3, .int x21)]) [2, 3, 1, 0] rfl ?_
          exact ih _ _ _  hP
        refine V_if_eq (tgt := 55) hX dX11_watch_48 (by decide) (fun hc20 => ?_) (fun hc20 => ?_)
        · refine V_iconst (v := 0) hX dX11_watch_55 (by decide) ?_
          refine V_selT (c := x19 = 0) (b := 1) hc20 ?_
          exact k22
        · refine V_iconst (v := 1) hX dX11_watch_51 (by decide) ?_
          refine V_goto (tgt := 56) hX dX11_watch_52 (by decide) ?_
          refine V_selF (c := x19 = 0) (a := 0) hc20 ?_
          exact k22
def L_X11_watch_94 (F : Nat) (x29 : Int32) (k118 : Wd → Int32 → Option (Int32 × Wd)) : Nat → Wd → Int32 → Option (Int32 × Wd)
  | 0, _, _ => none
  | n + 1, w, x30 => (if (gI w 88 31) ≤ x30 then k118 w x30 else bnd (P_X11_does F w x30) (fun x34 w33 => (if x34 = 0 then k118 w33 x30 else lt (x30 + 1 : Int32) (fun x36 => L_X11_watch_94 F x29 k118 n w33 x36))))
set_option maxRecDepth 100000 in
set_option maxHeartbeats 4000000 in
theorem sL_X11_watch_94 {X : Cx} {S : Sx} {r : Int32 × Wd} {F : Nat} {x29 : Int32} {k118 : Wd → Int32 → Option (Int32 × Wd)} (hX : Ok X S cX11_watch RX11 7 rm_X11_watch) (hR : HRt X S cX11_watch .int r)  (hk118 : ∀ (w : Wd) (x31 : Int32) , k118 w x31 = some r → V X S w 118 [(0, rf S 88), (5, .int x29), (6, .int x31)] []) : ∀ (n : Nat) (w : Wd) (x30 : Int32) , L_X11_watch_94 F x29 k118 n w x30 = some r → V X S w 94 [(0, rf S 88), (5, .int x29), (6, .int x30)] [] := by
  intro n
  induction n with
  | zero =>
    intro w x30  hP
    exact nn hP
  | succ n ih =>
    intro w x30  hP
    rw [L_X11_watch_94] at hP
    refine V_iload hX dX11_watch_94 2 rfl ?_
    refine V_aload_n hX dX11_watch_96 0 rfl ?_
    refine V_getI hX fk_X11_320 tb_88 (fun _ _ _ => rfl) dX11_watch_97 ?_
    refine V_icmp_ge (tgt := 118) hX dX11_watch_100 (by decide) (fun hc32 => ?_) (fun hc32 => ?_)
    · replace hP := ite_t hc32 hP
      exact hk118 _ _  hP
    · replace hP := ite_f hc32 hP
      refine V_aload_n hX dX11_watch_103 0 rfl ?_
      refine V_iload hX dX11_watch_104 2 rfl ?_
      obtain ⟨x34, w33, hcw33, hP⟩ := bnd_e hP
      refine V_callVi (As := [.int x30]) (rest := []) hX mk_X11_330 nk_X11_does (fun l => c_X11_does l S  hcw33) tb_88 rfl ⟨rfl, rfl, Nat.le_of_ble_eq_true rfl, Nat.le_of_ble_eq_true rfl⟩ rfl rfl (Nat.le_of_ble_eq_true rfl) dX11_watch_106 ?_
      refine V_if_eq (tgt := 118) hX dX11_watch_109 (by decide) (fun hc35 => ?_) (fun hc35 => ?_)
      · replace hP := ite_t hc35 hP
        exact hk118 _ _  hP
      · replace hP := ite_f hc35 hP
        obtain ⟨x36, ex36⟩ : ∃ y : Int32, y = x30 + 1 := ⟨_, rfl⟩
        replace hP := lt_r ex36 hP
        refine V_iinc (v := x36) (lv' := [(6, .int x36), (0, rf S 88), (5, .int x29)]) hX dX11_watch_112 (j := 2) rfl (by decide) (by rw [ex36]; rfl) rfl ?_
        refine V_goto (tgt := 94) hX dX11_watch_115 (by decide) ?_
        refine V_sub (lv' := [(0, rf S 88), (5, .int x29), (6, .int x36)]) [1, 2, 0] rfl ?_
        exact ih _ _  hP
def K_X11_watch_118 (F : Nat)   (w : Wd) (x37 : Int32) (x38 : Int32) : Option (Int32 × Wd) := lt (sI w 88 1 0) (fun w39 => lt (if (gI w39 88 31) ≤ x38 then 0 else 1 : Int32) (fun x41 => bnd (P_X11_flag F w39 x41) (fun x43 w42 => bnv (P_X11_enters F w42 (Int32.toInt64 x43)) (fun w44 => gd (inB 13 16) (bnv (P_X11_enters F w44 (Int32.toInt64 ((gI w44 95 13) - x37))) (fun w46 => (if x38 ≤ 0 then some (0, w46) else bnd (P_X11_adds F w46 x38) (fun x49 w48 => some (x49, w48)))))))))
set_option maxRecDepth 100000 in
set_option maxHeartbeats 4000000 in
theorem sK_X11_watch_118 {X : Cx} {S : Sx} {r : Int32 × Wd} {F : Nat}   {w : Wd} {x37 : Int32} {x38 : Int32} (hX : Ok X S cX11_watch RX11 7 rm_X11_watch) (hR : HRt X S cX11_watch .int r)    (hP : K_X11_watch_118 F   w x37 x38 = some r) : V X S w 118 [(0, rf S 88), (5, .int x37), (6, .int x38)] [] := by
  unfold K_X11_watch_118 at hP
  refine V_aload_n hX dX11_watch_118 0 rfl ?_
  refine V_iconst (v := 0) hX dX11_watch_119 (by decide) ?_
  refine V_putI hX fw_X11_110 tb_88 (fun _ _ _ => ⟨Nat.le_of_ble_eq_true rfl, rfl⟩) dX11_watch_120 (fun w39 ew39 => ?_)
  replace hP := lt_r ew39 hP
  refine V_aload_n hX dX11_watch_123 0 rfl ?_
  refine V_iload hX dX11_watch_124 2 rfl ?_
  refine V_aload_n hX dX11_watch_126 0 rfl ?_
  refine V_getI hX fk_X11_320 tb_88 (fun _ _ _ => rfl) dX11_watch_127 ?_
  have k50 : V X S w39 138 [(0, rf S 88), (5, .int x37), (6, .int x38)] [.int (if (gI w39 88 31) ≤ x38 then 0 else 1), rf S 88] := by
    refine V_topi (fun x41 ex41 => ?_)
    replace hP := lt_r ex41 hP
    obtain ⟨x43, w42, hcw42, hP⟩ := bnd_e hP
    refine V_callSi (As := [.int x41]) (rest := [rf S 88]) hX mk_X11_138 nk_X11_flag (fun l => c_X11_flag l S  hcw42) ⟨rfl, rfl, Nat.le_of_ble_eq_true rfl, Nat.le_of_ble_eq_true rfl⟩ rfl rfl (Nat.le_of_ble_eq_true rfl) dX11_watch_138 ?_
    refine V_i2l hX dX11_watch_141 ?_
    obtain ⟨w44, hcw44, hP⟩ := bnv_e hP
    refine V_callVv (As := [.long (Int32.toInt64 x43)]) (rest := []) hX mk_X11_316 nk_X11_enters (fun l => c_X11_enters l S  hcw44) tb_88 rfl ⟨rfl, rfl, Nat.le_of_ble_eq_true rfl, Nat.le_of_ble_eq_true rfl⟩ rfl rfl (Nat.le_of_ble_eq_true rfl) dX11_watch_142 ?_
    refine V_aload_n hX dX11_watch_145 0 rfl ?_
    refine V_aload_n hX dX11_watch_146 0 rfl ?_
    refine V_getF (j := 95) hX fk_X11_29 tb_88 (fun _ _ _ => rfl) dX11_watch_147 ?_
    refine V_bipush (v := 13) hX dX11_watch_150 (by decide) ?_
    obtain ⟨hi45, hP⟩ := gd_e hP
    refine V_iald hX tb_95 hi45 dX11_watch_152 ?_
    refine V_iload hX dX11_watch_153 1 rfl ?_
    refine V_isub hX dX11_watch_155 ?_
    refine V_i2l hX dX11_watch_156 ?_
    obtain ⟨w46, hcw46, hP⟩ := bnv_e hP
    refine V_callVv (As := [.long (Int32.toInt64 ((gI w44 95 13) - x37))]) (rest := []) hX mk_X11_316 nk_X11_enters (fun l => c_X11_enters l S  hcw46) tb_88 rfl ⟨rfl, rfl, Nat.le_of_ble_eq_true rfl, Nat.le_of_ble_eq_true rfl⟩ rfl rfl (Nat.le_of_ble_eq_true rfl) dX11_watch_157 ?_
    refine V_iload hX dX11_watch_160 2 rfl ?_
    refine V_if_le (tgt := 174) hX dX11_watch_162 (by decide) (fun hc47 => ?_) (fun hc47 => ?_)
    · replace hP := ite_t hc47 hP
      refine V_iconst (v := 0) hX dX11_watch_174 (by decide) ?_
      exact hR _ _ _ _ (Option.some.inj hP) rfl dX11_watch_175
    · replace hP := ite_f hc47 hP
      refine V_aload_n hX dX11_watch_165 0 rfl ?_
      refine V_iload hX dX11_watch_166 2 rfl ?_
      obtain ⟨x49, w48, hcw48, hP⟩ := bnd_e hP
      refine V_callVi (As := [.int x38]) (rest := []) hX mk_X11_283 nk_X11_adds (fun l => c_X11_adds l S  hcw48) tb_88 rfl ⟨rfl, rfl, Nat.le_of_ble_eq_true rfl, Nat.le_of_ble_eq_true rfl⟩ rfl rfl (Nat.le_of_ble_eq_true rfl) dX11_watch_168 ?_
      refine V_goto (tgt := 175) hX dX11_watch_171 (by decide) ?_
      exact hR _ _ _ _ (Option.some.inj hP) rfl dX11_watch_175
  refine V_icmp_ge (tgt := 137) hX dX11_watch_130 (by decide) (fun hc40 => ?_) (fun hc40 => ?_)
  · refine V_iconst (v := 0) hX dX11_watch_137 (by decide) ?_
    refine V_selT (c := (gI w39 88 31) ≤ x38) (b := 1) hc40 ?_
    exact k50
  · refine V_iconst (v := 1) hX dX11_watch_133 (by decide) ?_
    refine V_goto (tgt := 138) hX dX11_watch_134 (by decide) ?_
    refine V_selF (c := (gI w39 88 31) ≤ x38) (a := 0) hc40 ?_
    exact k50
def P_X11_watch (F : Nat) (w : Wd)  : Option (Int32 × Wd) := lt (sI w 88 0 0) (fun w1 => bnd (P_X11_begins F w1 60) (fun x3 w2 => lt (sI w2 88 31 0) (fun w4 => lt (if x3 ≤ 0 then 0 else 1 : Int32) (fun x6 => L_X11_watch_29 F x3 (fun w x10 => bnd (P_X11_faultOf F w x3 60 x10) (fun x24 w23 => (if (0 : Int32) ≤ x24 then bnv (P_X11_putsBy F w23 ) (fun w26 => gd (inB 13 16) (lt (gI w26 95 13 : Int32) (fun x28 => L_X11_watch_94 F x28 (fun w x31 => K_X11_watch_118 F   w x28 x31) F w26 0))) else some (x24, w23)))) F w4 1 x6))))
set_option maxRecDepth 100000 in
set_option maxHeartbeats 4000000 in
theorem s_X11_watch {X : Cx} {S : Sx} {r : Int32 × Wd} {F : Nat} {w : Wd}   (hX : Ok X S cX11_watch RX11 7 rm_X11_watch) (hR : HRt X S cX11_watch .int r) (hP : P_X11_watch F w  = some r) : V X S w 0 [(0, rf S 88)] [] := by
  unfold P_X11_watch at hP
  refine V_aload_n hX dX11_watch_0 0 rfl ?_
  refine V_iconst (v := 0) hX dX11_watch_1 (by decide) ?_
  refine V_putI hX fw_X11_102 tb_88 (fun _ _ _ => ⟨Nat.le_of_ble_eq_true rfl, rfl⟩) dX11_watch_2 (fun w1 ew1 => ?_)
  replace hP := lt_r ew1 hP
  refine V_aload_n hX dX11_watch_5 0 rfl ?_
  refine V_bipush (v := 60) hX dX11_watch_6 (by decide) ?_
  obtain ⟨x3, w2, hcw2, hP⟩ := bnd_e hP
  refine V_callVi (As := [.int 60]) (rest := []) hX mk_X11_176 nk_X11_begins (fun l => c_X11_begins l S  hcw2) tb_88 rfl ⟨rfl, rfl, Nat.le_of_ble_eq_true rfl, Nat.le_of_ble_eq_true rfl⟩ rfl rfl (Nat.le_of_ble_eq_true rfl) dX11_watch_8 ?_
  refine V_istore_n (lv' := [(1, .int x3), (0, rf S 88)]) hX dX11_watch_11 (by decide) rfl ?_
  refine V_aload_n hX dX11_watch_12 1 rfl ?_
  refine V_iconst (v := 0) hX dX11_watch_13 (by decide) ?_
  refine V_putI hX fw_X11_320 tb_88 (fun _ _ _ => ⟨Nat.le_of_ble_eq_true rfl, rfl⟩) dX11_watch_14 (fun w4 ew4 => ?_)
  replace hP := lt_r ew4 hP
  refine V_iconst (v := 1) hX dX11_watch_17 (by decide) ?_
  refine V_istore_n (lv' := [(2, .int 1), (1, .int x3), (0, rf S 88)]) hX dX11_watch_18 (by decide) rfl ?_
  refine V_iload_n hX dX11_watch_19 1 rfl ?_
  have k53 : V X S w4 28 [(2, .int 1), (1, .int x3), (0, rf S 88)] [.int (if x3 ≤ 0 then 0 else 1)] := by
    refine V_topi (fun x6 ex6 => ?_)
    replace hP := lt_r ex6 hP
    refine V_istore_n (lv' := [(3, .int x6), (2, .int 1), (1, .int x3), (0, rf S 88)]) hX dX11_watch_28 (by decide) rfl ?_
    refine V_sub (lv' := [(0, rf S 88), (1, .int x3), (2, .int 1), (3, .int x6)]) [3, 2, 1, 0] rfl ?_
    have k52 : ∀ (w : Wd) (x10 : Int32) , (bnd (P_X11_faultOf F w x3 60 x10) (fun x24 w23 => (if (0 : Int32) ≤ x24 then bnv (P_X11_putsBy F w23 ) (fun w26 => gd (inB 13 16) (lt (gI w26 95 13 : Int32) (fun x28 => L_X11_watch_94 F x28 (fun w x31 => K_X11_watch_118 F   w x28 x31) F w26 0))) else some (x24, w23)))) = some r → V X S w 60 [(0, rf S 88), (1, .int x3), (2, .int x10)] [] := by
      intro w x10  hP
      refine V_aload_n hX dX11_watch_60 0 rfl ?_
      refine V_iload_n hX dX11_watch_61 1 rfl ?_
      refine V_bipush (v := 60) hX dX11_watch_62 (by decide) ?_
      refine V_iload_n hX dX11_watch_64 2 rfl ?_
      obtain ⟨x24, w23, hcw23, hP⟩ := bnd_e hP
      refine V_callVi (As := [.int x3, .int 60, .int x10]) (rest := []) hX mk_X11_186 nk_X11_faultOf (fun l => c_X11_faultOf l S  hcw23) tb_88 rfl ⟨rfl, rfl, Nat.le_of_ble_eq_true rfl, Nat.le_of_ble_eq_true rfl⟩ rfl rfl (Nat.le_of_ble_eq_true rfl) dX11_watch_65 ?_
      refine V_istore (lv' := [(4, .int x24), (0, rf S 88), (1, .int x3), (2, .int x10)]) hX dX11_watch_68 (by decide) rfl ?_
      refine V_iload hX dX11_watch_70 0 rfl ?_
      refine V_if_ge (tgt := 78) hX dX11_watch_72 (by decide) (fun hc25 => ?_) (fun hc25 => ?_)
      · replace hP := ite_t hc25 hP
        refine V_aload_n hX dX11_watch_78 1 rfl ?_
        obtain ⟨w26, hcw26, hP⟩ := bnv_e hP
        refine V_callVv (As := []) (rest := []) hX mk_X11_292 nk_X11_putsBy (fun l => c_X11_putsBy l S  hcw26) tb_88 rfl ⟨rfl, rfl, Nat.le_of_ble_eq_true rfl, Nat.le_of_ble_eq_true rfl⟩ rfl rfl (Nat.le_of_ble_eq_true rfl) dX11_watch_79 ?_
        refine V_aload_n hX dX11_watch_82 1 rfl ?_
        refine V_getF (j := 95) hX fk_X11_29 tb_88 (fun _ _ _ => rfl) dX11_watch_83 ?_
        refine V_bipush (v := 13) hX dX11_watch_86 (by decide) ?_
        obtain ⟨hi27, hP⟩ := gd_e hP
        refine V_iald hX tb_95 hi27 dX11_watch_88 ?_
        refine V_topi (fun x28 ex28 => ?_)
        replace hP := lt_r ex28 hP
        refine V_istore (lv' := [(5, .int x28), (4, .int x24), (0, rf S 88), (1, .int x3), (2, .int x10)]) hX dX11_watch_89 (by decide) rfl ?_
        refine V_iconst (v := 0) hX dX11_watch_91 (by decide) ?_
        refine V_istore (lv' := [(6, .int 0), (5, .int x28), (4, .int x24), (0, rf S 88), (1, .int x3), (2, .int x10)]) hX dX11_watch_92 (by decide) rfl ?_
        refine V_sub (lv' := [(0, rf S 88), (5, .int x28), (6, .int 0)]) [3, 1, 0] rfl ?_
        have k51 : ∀ (w : Wd) (x31 : Int32) , (K_X11_watch_118 F   w x28 x31) = some r → V X S w 118 [(0, rf S 88), (5, .int x28), (6, .int x31)] [] := by
          intro w x31  hP
          exact sK_X11_watch_118 hX hR    hP
        exact sL_X11_watch_94 hX hR  k51 F _ _  hP
      · replace hP := ite_f hc25 hP
        refine V_iload hX dX11_watch_75 0 rfl ?_
        exact hR _ _ _ _ (Option.some.inj hP) rfl dX11_watch_77
    exact sL_X11_watch_29 hX hR  k52 F _ _ _  hP
  refine V_if_le (tgt := 27) hX dX11_watch_20 (by decide) (fun hc5 => ?_) (fun hc5 => ?_)
  · refine V_iconst (v := 0) hX dX11_watch_27 (by decide) ?_
    refine V_selT (c := x3 ≤ 0) (b := 1) hc5 ?_
    exact k53
  · refine V_iconst (v := 1) hX dX11_watch_23 (by decide) ?_
    refine V_goto (tgt := 28) hX dX11_watch_24 (by decide) ?_
    refine V_selF (c := x3 ≤ 0) (a := 0) hc5 ?_
    exact k53
theorem c_X11_watch (l : Launch) (S : Sx) {r : Int32 × Wd} {F : Nat} {w : Wd}   (h : P_X11_watch F w  = some r) : Met l yX11_watch (wsg yX11_watch cX11_watch 7 (some .int)) rm_X11_watch (PC S w [rf S 88]) (QCi S r) 0 0 (Aw S) :=
  met_i (by decide) rfl (Nat.le_of_ble_eq_true rfl) ⟨rfl, rfl⟩ (fun X hX hR => s_X11_watch  hX hR h)

-- MustNotStopModel.puts()V
abbrev rm_X11_puts : Room := { frames := 1, cells := 0, slots := 0, locals := 64 }
theorem nk_X11_puts : MNk yX11_puts RX11 0 := ⟨rfl, by decide, by decide, by decide +kernel⟩
def L_X11_puts_2 (F : Nat)  (k26 : Wd → Option (Wd)) : Nat → Wd → Int32 → Option (Wd)
  | 0, _, _ => none
  | n + 1, w, x1 => (if (16 : Int32) ≤ x1 then k26 w  else gd (inB x1 16) (gd (inB x1 16) (lt (sI w 96 x1.toNatClampNeg (gI w 95 x1.toNatClampNeg)) (fun w5 => lt (x1 + 1 : Int32) (fun x6 => L_X11_puts_2 F  k26 n w5 x6)))))
set_option maxRecDepth 100000 in
set_option maxHeartbeats 4000000 in
theorem sL_X11_puts_2 {X : Cx} {S : Sx} {r : Wd} {F : Nat}  {k26 : Wd → Option (Wd)} (hX : Ok X S cX11_puts RX11 2 rm_X11_puts) (hR : HRv X S cX11_puts r)  (hk26 : ∀ (w : Wd), k26 w = some r → V X S w 26 [] []) : ∀ (n : Nat) (w : Wd) (x1 : Int32) , L_X11_puts_2 F  k26 n w x1 = some r → V X S w 2 [(0, rf S 88), (1, .int x1)] [] := by
  intro n
  induction n with
  | zero =>
    intro w x1  hP
    exact nn hP
  | succ n ih =>
    intro w x1  hP
    rw [L_X11_puts_2] at hP
    refine V_iload_n hX dX11_puts_2 1 rfl ?_
    refine V_bipush (v := 16) hX dX11_puts_3 (by decide) ?_
    refine V_icmp_ge (tgt := 26) hX dX11_puts_5 (by decide) (fun hc2 => ?_) (fun hc2 => ?_)
    · replace hP := ite_t hc2 hP
      refine V_sub (lv' := []) [] rfl ?_
      exact hk26 _   hP
    · replace hP := ite_f hc2 hP
      refine V_aload_n hX dX11_puts_8 0 rfl ?_
      refine V_getF (j := 96) hX fk_X11_32 tb_88 (fun _ _ _ => rfl) dX11_puts_9 ?_
      refine V_iload_n hX dX11_puts_12 1 rfl ?_
      refine V_aload_n hX dX11_puts_13 0 rfl ?_
      refine V_getF (j := 95) hX fk_X11_29 tb_88 (fun _ _ _ => rfl) dX11_puts_14 ?_
      refine V_iload_n hX dX11_puts_17 1 rfl ?_
      obtain ⟨hi3, hP⟩ := gd_e hP
      refine V_iald hX tb_95 hi3 dX11_puts_18 ?_
      obtain ⟨hi4, hP⟩ := gd_e hP
      refine V_iast hX tb_96 hi4 dX11_puts_19 (fun w5 ew5 => ?_)
      replace hP := lt_r ew5 hP
      obtain ⟨x6, ex6⟩ : ∃ y : Int32, y = x1 + 1 := ⟨_, rfl⟩
      replace hP := lt_r ex6 hP
      refine V_iinc (v := x6) (lv' := [(1, .int x6), (0, rf S 88)]) hX dX11_puts_20 (j := 1) rfl (by decide) (by rw [ex6]; rfl) rfl ?_
      refine V_goto (tgt := 2) hX dX11_puts_23 (by decide) ?_
      refine V_sub (lv' := [(0, rf S 88), (1, .int x6)]) [1, 0] rfl ?_
      exact ih _ _  hP
def P_X11_puts (F : Nat) (w : Wd)  : Option (Wd) := L_X11_puts_2 F  (fun w  => some w) F w 0
set_option maxRecDepth 100000 in
set_option maxHeartbeats 4000000 in
theorem s_X11_puts {X : Cx} {S : Sx} {r : Wd} {F : Nat} {w : Wd}   (hX : Ok X S cX11_puts RX11 2 rm_X11_puts) (hR : HRv X S cX11_puts r) (hP : P_X11_puts F w  = some r) : V X S w 0 [(0, rf S 88)] [] := by
  unfold P_X11_puts at hP
  refine V_iconst (v := 0) hX dX11_puts_0 (by decide) ?_
  refine V_istore_n (lv' := [(1, .int 0), (0, rf S 88)]) hX dX11_puts_1 (by decide) rfl ?_
  refine V_sub (lv' := [(0, rf S 88), (1, .int 0)]) [1, 0] rfl ?_
  have k7 : ∀ (w : Wd)  , (some w) = some r → V X S w 26 [] [] := by
    intro w   hP
    exact hR _ _ _ (Option.some.inj hP) dX11_puts_26
  exact sL_X11_puts_2 hX hR  k7 F _ _  hP
theorem c_X11_puts (l : Launch) (S : Sx) {r : Wd} {F : Nat} {w : Wd}   (h : P_X11_puts F w  = some r) : Met l yX11_puts (wsg yX11_puts cX11_puts 2 none) rm_X11_puts (PC S w [rf S 88]) (QCv S r) 0 0 (Aw S) :=
  met_v (by decide) rfl (Nat.le_of_ble_eq_true rfl) ⟨rfl, rfl⟩ (fun X hX hR => s_X11_puts  hX hR h)

-- MustNotStopModel.stopsIn()I
abbrev rm_X11_stopsIn : Room := { frames := 7, cells := 0, slots := 0, locals := 197 }
theorem nk_X11_stopsIn : MNk yX11_stopsIn RX11 0 := ⟨rfl, by decide, by decide, by decide +kernel⟩
def L_X11_stopsIn_6 (F : Nat)  (k47 : Wd → Option (Int32 × Wd)) : Nat → Wd → Int32 → Option (Int32 × Wd)
  | 0, _, _ => none
  | n + 1, w, x2 => (if (999 : Int32) < x2 then k47 w  else bnd (P_X11_minuteGoes F w 96) (fun x5 w4 => gd (inB 13 16) (gd (inB 13 16) ((if (gI w4 96 13) ≤ (gI w4 95 13) then lt (x2 + 1 : Int32) (fun x9 => L_X11_stopsIn_6 F  k47 n w4 x9) else some (x2, w4))))))
set_option maxRecDepth 100000 in
set_option maxHeartbeats 4000000 in
theorem sL_X11_stopsIn_6 {X : Cx} {S : Sx} {r : Int32 × Wd} {F : Nat}  {k47 : Wd → Option (Int32 × Wd)} (hX : Ok X S cX11_stopsIn RX11 2 rm_X11_stopsIn) (hR : HRt X S cX11_stopsIn .int r)  (hk47 : ∀ (w : Wd), k47 w = some r → V X S w 47 [] []) : ∀ (n : Nat) (w : Wd) (x2 : Int32) , L_X11_stopsIn_6 F  k47 n w x2 = some r → V X S w 6 [(0, rf S 88), (1, .int x2)] [] := by
  intro n
  induction n with
  | zero =>
    intro w x2  hP
    exact nn hP
  | succ n ih =>
    intro w x2  hP
    rw [L_X11_stopsIn_6] at hP
    refine V_iload_n hX dX11_stopsIn_6 1 rfl ?_
    refine V_sipush (v := 999) hX dX11_stopsIn_7 (by decide) ?_
    refine V_icmp_gt (tgt := 47) hX dX11_stopsIn_10 (by decide) (fun hc3 => ?_) (fun hc3 => ?_)
    · replace hP := ite_t hc3 hP
      refine V_sub (lv' := []) [] rfl ?_
      exact hk47 _   hP
    · replace hP := ite_f hc3 hP
      refine V_aload_n hX dX11_stopsIn_13 0 rfl ?_
      refine V_aload_n hX dX11_stopsIn_14 0 rfl ?_
      refine V_getF (j := 96) hX fk_X11_32 tb_88 (fun _ _ _ => rfl) dX11_stopsIn_15 ?_
      obtain ⟨x5, w4, hcw4, hP⟩ := bnd_e hP
      refine V_callVi (As := [rf S 96]) (rest := []) hX mk_X11_307 nk_X11_minuteGoes (fun l => c_X11_minuteGoes l S (by decide) hcw4) tb_88 rfl ⟨rfl, rfl, Nat.le_of_ble_eq_true rfl, Nat.le_of_ble_eq_true rfl⟩ rfl rfl (Nat.le_of_ble_eq_true rfl) dX11_stopsIn_18 ?_
      refine V_pop hX dX11_stopsIn_21 rfl ?_
      refine V_aload_n hX dX11_stopsIn_22 0 rfl ?_
      refine V_getF (j := 96) hX fk_X11_32 tb_88 (fun _ _ _ => rfl) dX11_stopsIn_23 ?_
      refine V_bipush (v := 13) hX dX11_stopsIn_26 (by decide) ?_
      obtain ⟨hi6, hP⟩ := gd_e hP
      refine V_iald hX tb_96 hi6 dX11_stopsIn_28 ?_
      refine V_aload_n hX dX11_stopsIn_29 0 rfl ?_
      refine V_getF (j := 95) hX fk_X11_29 tb_88 (fun _ _ _ => rfl) dX11_stopsIn_30 ?_
      refine V_bipush (v := 13) hX dX11_stopsIn_33 (by decide) ?_
      obtain ⟨hi7, hP⟩ := gd_e hP
      refine V_iald hX tb_95 hi7 dX11_stopsIn_35 ?_
      refine V_icmp_le (tgt := 41) hX dX11_stopsIn_36 (by decide) (fun hc8 => ?_) (fun hc8 => ?_)
      · replace hP := ite_t hc8 hP
        obtain ⟨x9, ex9⟩ : ∃ y : Int32, y = x2 + 1 := ⟨_, rfl⟩
        replace hP := lt_r ex9 hP
        refine V_iinc (v := x9) (lv' := [(1, .int x9), (0, rf S 88)]) hX dX11_stopsIn_41 (j := 1) rfl (by decide) (by rw [ex9]; rfl) rfl ?_
        refine V_goto (tgt := 6) hX dX11_stopsIn_44 (by decide) ?_
        refine V_sub (lv' := [(0, rf S 88), (1, .int x9)]) [1, 0] rfl ?_
        exact ih _ _  hP
      · replace hP := ite_f hc8 hP
        refine V_iload_n hX dX11_stopsIn_39 1 rfl ?_
        exact hR _ _ _ _ (Option.some.inj hP) rfl dX11_stopsIn_40
def P_X11_stopsIn (F : Nat) (w : Wd)  : Option (Int32 × Wd) := bnv (P_X11_puts F w ) (fun w1 => L_X11_stopsIn_6 F  (fun w  => some (1000, w)) F w1 1)
set_option maxRecDepth 100000 in
set_option maxHeartbeats 4000000 in
theorem s_X11_stopsIn {X : Cx} {S : Sx} {r : Int32 × Wd} {F : Nat} {w : Wd}   (hX : Ok X S cX11_stopsIn RX11 2 rm_X11_stopsIn) (hR : HRt X S cX11_stopsIn .int r) (hP : P_X11_stopsIn F w  = some r) : V X S w 0 [(0, rf S 88)] [] := by
  unfold P_X11_stopsIn at hP
  refine V_aload_n hX dX11_stopsIn_0 0 rfl ?_
  obtain ⟨w1, hcw1, hP⟩ := bnv_e hP
  refine V_callVv (As := []) (rest := []) hX mk_X11_333 nk_X11_puts (fun l => c_X11_puts l S  hcw1) tb_88 rfl ⟨rfl, rfl, Nat.le_of_ble_eq_true rfl, Nat.le_of_ble_eq_true rfl⟩ rfl rfl (Nat.le_of_ble_eq_true rfl) dX11_stopsIn_1 ?_
  refine V_iconst (v := 1) hX dX11_stopsIn_4 (by decide) ?_
  refine V_istore_n (lv' := [(1, .int 1), (0, rf S 88)]) hX dX11_stopsIn_5 (by decide) rfl ?_
  refine V_sub (lv' := [(0, rf S 88), (1, .int 1)]) [1, 0] rfl ?_
  have k10 : ∀ (w : Wd)  , (some (1000, w)) = some r → V X S w 47 [] [] := by
    intro w   hP
    refine V_sipush (v := 1000) hX dX11_stopsIn_47 (by decide) ?_
    exact hR _ _ _ _ (Option.some.inj hP) rfl dX11_stopsIn_50
  exact sL_X11_stopsIn_6 hX hR  k10 F _ _  hP
theorem c_X11_stopsIn (l : Launch) (S : Sx) {r : Int32 × Wd} {F : Nat} {w : Wd}   (h : P_X11_stopsIn F w  = some r) : Met l yX11_stopsIn (wsg yX11_stopsIn cX11_stopsIn 2 (some .int)) rm_X11_stopsIn (PC S w [rf S 88]) (QCi S r) 0 0 (Aw S) :=
  met_i (by decide) rfl (Nat.le_of_ble_eq_true rfl) ⟨rfl, rfl⟩ (fun X hX hR => s_X11_stopsIn  hX hR h)

-- MustNotStopModel.lasts()I
abbrev rm_X11_lasts : Room := { frames := 8, cells := 0, slots := 0, locals := 218 }
theorem nk_X11_lasts : MNk yX11_lasts RX11 0 := ⟨rfl, by decide, by decide, by decide +kernel⟩
def P_X11_lasts (F : Nat) (w : Wd)  : Option (Int32 × Wd) := lt (sI w 88 0 0) (fun w1 => bnd (P_X11_stopsIn F w1 ) (fun x3 w2 => (if x3 ≤ 999 then lt (sI w2 88 1 0) (fun w5 => gd (inB 11 16) (gd (inB 11 16) (bnv (P_X11_enters F w5 (Int32.toInt64 ((gI w5 96 11) - (gI w5 95 11)))) (fun w8 => gd (inB 14 16) (gd (inB 14 16) (bnv (P_X11_enters F w8 (Int32.toInt64 ((gI w8 96 14) - (gI w8 95 14)))) (fun w11 => some (x3, w11)))))))) else some ((-2), w2))))
set_option maxRecDepth 100000 in
set_option maxHeartbeats 4000000 in
theorem s_X11_lasts {X : Cx} {S : Sx} {r : Int32 × Wd} {F : Nat} {w : Wd}   (hX : Ok X S cX11_lasts RX11 2 rm_X11_lasts) (hR : HRt X S cX11_lasts .int r) (hP : P_X11_lasts F w  = some r) : V X S w 0 [(0, rf S 88)] [] := by
  unfold P_X11_lasts at hP
  refine V_aload_n hX dX11_lasts_0 0 rfl ?_
  refine V_iconst (v := 0) hX dX11_lasts_1 (by decide) ?_
  refine V_putI hX fw_X11_102 tb_88 (fun _ _ _ => ⟨Nat.le_of_ble_eq_true rfl, rfl⟩) dX11_lasts_2 (fun w1 ew1 => ?_)
  replace hP := lt_r ew1 hP
  refine V_aload_n hX dX11_lasts_5 0 rfl ?_
  obtain ⟨x3, w2, hcw2, hP⟩ := bnd_e hP
  refine V_callVi (As := []) (rest := []) hX mk_X11_336 nk_X11_stopsIn (fun l => c_X11_stopsIn l S  hcw2) tb_88 rfl ⟨rfl, rfl, Nat.le_of_ble_eq_true rfl, Nat.le_of_ble_eq_true rfl⟩ rfl rfl (Nat.le_of_ble_eq_true rfl) dX11_lasts_6 ?_
  refine V_istore_n (lv' := [(1, .int x3), (0, rf S 88)]) hX dX11_lasts_9 (by decide) rfl ?_
  refine V_iload_n hX dX11_lasts_10 0 rfl ?_
  refine V_sipush (v := 999) hX dX11_lasts_11 (by decide) ?_
  refine V_icmp_le (tgt := 20) hX dX11_lasts_14 (by decide) (fun hc4 => ?_) (fun hc4 => ?_)
  · replace hP := ite_t hc4 hP
    refine V_aload_n hX dX11_lasts_20 1 rfl ?_
    refine V_iconst (v := 0) hX dX11_lasts_21 (by decide) ?_
    refine V_putI hX fw_X11_110 tb_88 (fun _ _ _ => ⟨Nat.le_of_ble_eq_true rfl, rfl⟩) dX11_lasts_22 (fun w5 ew5 => ?_)
    replace hP := lt_r ew5 hP
    refine V_aload_n hX dX11_lasts_25 1 rfl ?_
    refine V_aload_n hX dX11_lasts_26 1 rfl ?_
    refine V_getF (j := 96) hX fk_X11_32 tb_88 (fun _ _ _ => rfl) dX11_lasts_27 ?_
    refine V_bipush (v := 11) hX dX11_lasts_30 (by decide) ?_
    obtain ⟨hi6, hP⟩ := gd_e hP
    refine V_iald hX tb_96 hi6 dX11_lasts_32 ?_
    refine V_aload_n hX dX11_lasts_33 1 rfl ?_
    refine V_getF (j := 95) hX fk_X11_29 tb_88 (fun _ _ _ => rfl) dX11_lasts_34 ?_
    refine V_bipush (v := 11) hX dX11_lasts_37 (by decide) ?_
    obtain ⟨hi7, hP⟩ := gd_e hP
    refine V_iald hX tb_95 hi7 dX11_lasts_39 ?_
    refine V_isub hX dX11_lasts_40 ?_
    refine V_i2l hX dX11_lasts_41 ?_
    obtain ⟨w8, hcw8, hP⟩ := bnv_e hP
    refine V_callVv (As := [.long (Int32.toInt64 ((gI w5 96 11) - (gI w5 95 11)))]) (rest := []) hX mk_X11_316 nk_X11_enters (fun l => c_X11_enters l S  hcw8) tb_88 rfl ⟨rfl, rfl, Nat.le_of_ble_eq_true rfl, Nat.le_of_ble_eq_true rfl⟩ rfl rfl (Nat.le_of_ble_eq_true rfl) dX11_lasts_42 ?_
    refine V_aload_n hX dX11_lasts_45 1 rfl ?_
    refine V_aload_n hX dX11_lasts_46 1 rfl ?_
    refine V_getF (j := 96) hX fk_X11_32 tb_88 (fun _ _ _ => rfl) dX11_lasts_47 ?_
    refine V_bipush (v := 14) hX dX11_lasts_50 (by decide) ?_
    obtain ⟨hi9, hP⟩ := gd_e hP
    refine V_iald hX tb_96 hi9 dX11_lasts_52 ?_
    refine V_aload_n hX dX11_lasts_53 1 rfl ?_
    refine V_getF (j := 95) hX fk_X11_29 tb_88 (fun _ _ _ => rfl) dX11_lasts_54 ?_
    refine V_bipush (v := 14) hX dX11_lasts_57 (by decide) ?_
    obtain ⟨hi10, hP⟩ := gd_e hP
    refine V_iald hX tb_95 hi10 dX11_lasts_59 ?_
    refine V_isub hX dX11_lasts_60 ?_
    refine V_i2l hX dX11_lasts_61 ?_
    obtain ⟨w11, hcw11, hP⟩ := bnv_e hP
    refine V_callVv (As := [.long (Int32.toInt64 ((gI w8 96 14) - (gI w8 95 14)))]) (rest := []) hX mk_X11_316 nk_X11_enters (fun l => c_X11_enters l S  hcw11) tb_88 rfl ⟨rfl, rfl, Nat.le_of_ble_eq_true rfl, Nat.le_of_ble_eq_true rfl⟩ rfl rfl (Nat.le_of_ble_eq_true rfl) dX11_lasts_62 ?_
    refine V_iload_n hX dX11_lasts_65 0 rfl ?_
    exact hR _ _ _ _ (Option.some.inj hP) rfl dX11_lasts_66
  · replace hP := ite_f hc4 hP
    refine V_bipush (v := (-2)) hX dX11_lasts_17 (by decide) ?_
    exact hR _ _ _ _ (Option.some.inj hP) rfl dX11_lasts_19
theorem c_X11_lasts (l : Launch) (S : Sx) {r : Int32 × Wd} {F : Nat} {w : Wd}   (h : P_X11_lasts F w  = some r) : Met l yX11_lasts (wsg yX11_lasts cX11_lasts 2 (some .int)) rm_X11_lasts (PC S w [rf S 88]) (QCi S r) 0 0 (Aw S) :=
  met_i (by decide) rfl (Nat.le_of_ble_eq_true rfl) ⟨rfl, rfl⟩ (fun X hX hR => s_X11_lasts  hX hR h)

-- MustNotStopModel.rungFor(I)I
abbrev rm_X11_rungFor : Room := { frames := 7, cells := 0, slots := 0, locals := 197 }
theorem nk_X11_rungFor : MNk yX11_rungFor RX11 1 := ⟨rfl, by decide, by decide, by decide +kernel⟩
def L_X11_rungFor_2 (F : Nat) (x1 : Int32) (k26 : Wd → Option (Int32 × Wd)) : Nat → Wd → Int32 → Option (Int32 × Wd)
  | 0, _, _ => none
  | n + 1, w, x2 => (if x1 ≤ x2 then k26 w  else bnd (P_X11_minuteGoes F w 96) (fun x5 w4 => (if x5 = 0 then some (x2, w4) else lt (x2 + 1 : Int32) (fun x7 => L_X11_rungFor_2 F x1 k26 n w4 x7))))
set_option maxRecDepth 100000 in
set_option maxHeartbeats 4000000 in
theorem sL_X11_rungFor_2 {X : Cx} {S : Sx} {r : Int32 × Wd} {F : Nat} {x1 : Int32} {k26 : Wd → Option (Int32 × Wd)} (hX : Ok X S cX11_rungFor RX11 3 rm_X11_rungFor) (hR : HRt X S cX11_rungFor .int r)  (hk26 : ∀ (w : Wd), k26 w = some r → V X S w 26 [(1, .int x1)] []) : ∀ (n : Nat) (w : Wd) (x2 : Int32) , L_X11_rungFor_2 F x1 k26 n w x2 = some r → V X S w 2 [(0, rf S 88), (1, .int x1), (2, .int x2)] [] := by
  intro n
  induction n with
  | zero =>
    intro w x2  hP
    exact nn hP
  | succ n ih =>
    intro w x2  hP
    rw [L_X11_rungFor_2] at hP
    refine V_iload_n hX dX11_rungFor_2 2 rfl ?_
    refine V_iload_n hX dX11_rungFor_3 1 rfl ?_
    refine V_icmp_ge (tgt := 26) hX dX11_rungFor_4 (by decide) (fun hc3 => ?_) (fun hc3 => ?_)
    · replace hP := ite_t hc3 hP
      refine V_sub (lv' := [(1, .int x1)]) [1] rfl ?_
      exact hk26 _   hP
    · replace hP := ite_f hc3 hP
      refine V_aload_n hX dX11_rungFor_7 0 rfl ?_
      refine V_aload_n hX dX11_rungFor_8 0 rfl ?_
      refine V_getF (j := 96) hX fk_X11_32 tb_88 (fun _ _ _ => rfl) dX11_rungFor_9 ?_
      obtain ⟨x5, w4, hcw4, hP⟩ := bnd_e hP
      refine V_callVi (As := [rf S 96]) (rest := []) hX mk_X11_307 nk_X11_minuteGoes (fun l => c_X11_minuteGoes l S (by decide) hcw4) tb_88 rfl ⟨rfl, rfl, Nat.le_of_ble_eq_true rfl, Nat.le_of_ble_eq_true rfl⟩ rfl rfl (Nat.le_of_ble_eq_true rfl) dX11_rungFor_12 ?_
      refine V_if_ne (tgt := 20) hX dX11_rungFor_15 (by decide) (fun hc6 => ?_) (fun hc6 => ?_)
      · replace hP := ite_f hc6 hP
        obtain ⟨x7, ex7⟩ : ∃ y : Int32, y = x2 + 1 := ⟨_, rfl⟩
        replace hP := lt_r ex7 hP
        refine V_iinc (v := x7) (lv' := [(2, .int x7), (0, rf S 88), (1, .int x1)]) hX dX11_rungFor_20 (j := 2) rfl (by decide) (by rw [ex7]; rfl) rfl ?_
        refine V_goto (tgt := 2) hX dX11_rungFor_23 (by decide) ?_
        refine V_sub (lv' := [(0, rf S 88), (1, .int x1), (2, .int x7)]) [1, 2, 0] rfl ?_
        exact ih _ _  hP
      · replace hP := ite_t hc6 hP
        refine V_iload_n hX dX11_rungFor_18 2 rfl ?_
        exact hR _ _ _ _ (Option.some.inj hP) rfl dX11_rungFor_19
def P_X11_rungFor (F : Nat) (w : Wd) (x1 : Int32) : Option (Int32 × Wd) := L_X11_rungFor_2 F x1 (fun w  => some (x1, w)) F w 0
set_option maxRecDepth 100000 in
set_option maxHeartbeats 4000000 in
theorem s_X11_rungFor {X : Cx} {S : Sx} {r : Int32 × Wd} {F : Nat} {w : Wd} {x1 : Int32}  (hX : Ok X S cX11_rungFor RX11 3 rm_X11_rungFor) (hR : HRt X S cX11_rungFor .int r) (hP : P_X11_rungFor F w x1 = some r) : V X S w 0 [(0, rf S 88), (1, .int x1)] [] := by
  unfold P_X11_rungFor at hP
  refine V_iconst (v := 0) hX dX11_rungFor_0 (by decide) ?_
  refine V_istore_n (lv' := [(2, .int 0), (0, rf S 88), (1, .int x1)]) hX dX11_rungFor_1 (by decide) rfl ?_
  refine V_sub (lv' := [(0, rf S 88), (1, .int x1), (2, .int 0)]) [1, 2, 0] rfl ?_
  have k8 : ∀ (w : Wd)  , (some (x1, w)) = some r → V X S w 26 [(1, .int x1)] [] := by
    intro w   hP
    refine V_iload_n hX dX11_rungFor_26 0 rfl ?_
    exact hR _ _ _ _ (Option.some.inj hP) rfl dX11_rungFor_27
  exact sL_X11_rungFor_2 hX hR  k8 F _ _  hP
theorem c_X11_rungFor (l : Launch) (S : Sx) {r : Int32 × Wd} {F : Nat} {w : Wd} {x1 : Int32}  (h : P_X11_rungFor F w x1 = some r) : Met l yX11_rungFor (wsg yX11_rungFor cX11_rungFor 3 (some .int)) rm_X11_rungFor (PC S w [rf S 88, .int x1]) (QCi S r) 0 0 (Aw S) :=
  met_i (by decide) rfl (Nat.le_of_ble_eq_true rfl) ⟨rfl, rfl⟩ (fun X hX hR => s_X11_rungFor  hX hR h)

-- MustNotStopModel.hush()I
abbrev rm_X11_hush : Room := { frames := 8, cells := 0, slots := 0, locals := 219 }
theorem nk_X11_hush : MNk yX11_hush RX11 0 := ⟨rfl, by decide, by decide, by decide +kernel⟩
def P_X11_hush (F : Nat) (w : Wd)  : Option (Int32 × Wd) := lt (sI w 88 0 0) (fun w1 => bnv (P_X11_puts F w1 ) (fun w2 => bnd (P_X11_rungFor F w2 999) (fun x4 w3 => (if x4 = 999 then some ((-2), w3) else lt (sI w3 88 1 0) (fun w6 => gd (inB 12 16) (bnv (P_X11_enters F w6 (Int32.toInt64 (gI w6 96 12))) (fun w8 => some (x4, w8))))))))
set_option maxRecDepth 100000 in
set_option maxHeartbeats 4000000 in
theorem s_X11_hush {X : Cx} {S : Sx} {r : Int32 × Wd} {F : Nat} {w : Wd}   (hX : Ok X S cX11_hush RX11 2 rm_X11_hush) (hR : HRt X S cX11_hush .int r) (hP : P_X11_hush F w  = some r) : V X S w 0 [(0, rf S 88)] [] := by
  unfold P_X11_hush at hP
  refine V_aload_n hX dX11_hush_0 0 rfl ?_
  refine V_iconst (v := 0) hX dX11_hush_1 (by decide) ?_
  refine V_putI hX fw_X11_102 tb_88 (fun _ _ _ => ⟨Nat.le_of_ble_eq_true rfl, rfl⟩) dX11_hush_2 (fun w1 ew1 => ?_)
  replace hP := lt_r ew1 hP
  refine V_aload_n hX dX11_hush_5 0 rfl ?_
  obtain ⟨w2, hcw2, hP⟩ := bnv_e hP
  refine V_callVv (As := []) (rest := []) hX mk_X11_333 nk_X11_puts (fun l => c_X11_puts l S  hcw2) tb_88 rfl ⟨rfl, rfl, Nat.le_of_ble_eq_true rfl, Nat.le_of_ble_eq_true rfl⟩ rfl rfl (Nat.le_of_ble_eq_true rfl) dX11_hush_6 ?_
  refine V_aload_n hX dX11_hush_9 0 rfl ?_
  refine V_sipush (v := 999) hX dX11_hush_10 (by decide) ?_
  obtain ⟨x4, w3, hcw3, hP⟩ := bnd_e hP
  refine V_callVi (As := [.int 999]) (rest := []) hX mk_X11_339 nk_X11_rungFor (fun l => c_X11_rungFor l S  hcw3) tb_88 rfl ⟨rfl, rfl, Nat.le_of_ble_eq_true rfl, Nat.le_of_ble_eq_true rfl⟩ rfl rfl (Nat.le_of_ble_eq_true rfl) dX11_hush_13 ?_
  refine V_istore_n (lv' := [(1, .int x4), (0, rf S 88)]) hX dX11_hush_16 (by decide) rfl ?_
  refine V_iload_n hX dX11_hush_17 0 rfl ?_
  refine V_sipush (v := 999) hX dX11_hush_18 (by decide) ?_
  refine V_icmp_ne (tgt := 27) hX dX11_hush_21 (by decide) (fun hc5 => ?_) (fun hc5 => ?_)
  · replace hP := ite_f hc5 hP
    refine V_aload_n hX dX11_hush_27 1 rfl ?_
    refine V_iconst (v := 0) hX dX11_hush_28 (by decide) ?_
    refine V_putI hX fw_X11_110 tb_88 (fun _ _ _ => ⟨Nat.le_of_ble_eq_true rfl, rfl⟩) dX11_hush_29 (fun w6 ew6 => ?_)
    replace hP := lt_r ew6 hP
    refine V_aload_n hX dX11_hush_32 1 rfl ?_
    refine V_aload_n hX dX11_hush_33 1 rfl ?_
    refine V_getF (j := 96) hX fk_X11_32 tb_88 (fun _ _ _ => rfl) dX11_hush_34 ?_
    refine V_bipush (v := 12) hX dX11_hush_37 (by decide) ?_
    obtain ⟨hi7, hP⟩ := gd_e hP
    refine V_iald hX tb_96 hi7 dX11_hush_39 ?_
    refine V_i2l hX dX11_hush_40 ?_
    obtain ⟨w8, hcw8, hP⟩ := bnv_e hP
    refine V_callVv (As := [.long (Int32.toInt64 (gI w6 96 12))]) (rest := []) hX mk_X11_316 nk_X11_enters (fun l => c_X11_enters l S  hcw8) tb_88 rfl ⟨rfl, rfl, Nat.le_of_ble_eq_true rfl, Nat.le_of_ble_eq_true rfl⟩ rfl rfl (Nat.le_of_ble_eq_true rfl) dX11_hush_41 ?_
    refine V_iload_n hX dX11_hush_44 0 rfl ?_
    exact hR _ _ _ _ (Option.some.inj hP) rfl dX11_hush_45
  · replace hP := ite_t hc5 hP
    refine V_bipush (v := (-2)) hX dX11_hush_24 (by decide) ?_
    exact hR _ _ _ _ (Option.some.inj hP) rfl dX11_hush_26
theorem c_X11_hush (l : Launch) (S : Sx) {r : Int32 × Wd} {F : Nat} {w : Wd}   (h : P_X11_hush F w  = some r) : Met l yX11_hush (wsg yX11_hush cX11_hush 2 (some .int)) rm_X11_hush (PC S w [rf S 88]) (QCi S r) 0 0 (Aw S) :=
  met_i (by decide) rfl (Nat.le_of_ble_eq_true rfl) ⟨rfl, rfl⟩ (fun X hX hR => s_X11_hush  hX hR h)

-- MustNotStopModel.rungBy(II)I
abbrev rm_X11_rungBy : Room := { frames := 8, cells := 0, slots := 0, locals := 219 }
theorem nk_X11_rungBy : MNk yX11_rungBy RX11 2 := ⟨rfl, by decide, by decide, by decide +kernel⟩
def P_X11_rungBy (F : Nat) (w : Wd) (x1 : Int32) (x2 : Int32) : Option (Int32 × Wd) := bnv (P_X11_puts F w ) (fun w3 => gd (inB 8 16) (lt (sI w3 96 8 x1) (fun w5 => bnd (P_X11_rungFor F w5 x2) (fun x7 w6 => some (x7, w6)))))
set_option maxRecDepth 100000 in
set_option maxHeartbeats 4000000 in
theorem s_X11_rungBy {X : Cx} {S : Sx} {r : Int32 × Wd} {F : Nat} {w : Wd} {x1 : Int32} {x2 : Int32}  (hX : Ok X S cX11_rungBy RX11 3 rm_X11_rungBy) (hR : HRt X S cX11_rungBy .int r) (hP : P_X11_rungBy F w x1 x2 = some r) : V X S w 0 [(0, rf S 88), (1, .int x1), (2, .int x2)] [] := by
  unfold P_X11_rungBy at hP
  refine V_aload_n hX dX11_rungBy_0 0 rfl ?_
  obtain ⟨w3, hcw3, hP⟩ := bnv_e hP
  refine V_callVv (As := []) (rest := []) hX mk_X11_333 nk_X11_puts (fun l => c_X11_puts l S  hcw3) tb_88 rfl ⟨rfl, rfl, Nat.le_of_ble_eq_true rfl, Nat.le_of_ble_eq_true rfl⟩ rfl rfl (Nat.le_of_ble_eq_true rfl) dX11_rungBy_1 ?_
  refine V_aload_n hX dX11_rungBy_4 0 rfl ?_
  refine V_getF (j := 96) hX fk_X11_32 tb_88 (fun _ _ _ => rfl) dX11_rungBy_5 ?_
  refine V_bipush (v := 8) hX dX11_rungBy_8 (by decide) ?_
  refine V_iload_n hX dX11_rungBy_10 1 rfl ?_
  obtain ⟨hi4, hP⟩ := gd_e hP
  refine V_iast hX tb_96 hi4 dX11_rungBy_11 (fun w5 ew5 => ?_)
  replace hP := lt_r ew5 hP
  refine V_aload_n hX dX11_rungBy_12 0 rfl ?_
  refine V_iload_n hX dX11_rungBy_13 2 rfl ?_
  obtain ⟨x7, w6, hcw6, hP⟩ := bnd_e hP
  refine V_callVi (As := [.int x2]) (rest := []) hX mk_X11_339 nk_X11_rungFor (fun l => c_X11_rungFor l S  hcw6) tb_88 rfl ⟨rfl, rfl, Nat.le_of_ble_eq_true rfl, Nat.le_of_ble_eq_true rfl⟩ rfl rfl (Nat.le_of_ble_eq_true rfl) dX11_rungBy_14 ?_
  exact hR _ _ _ _ (Option.some.inj hP) rfl dX11_rungBy_17
theorem c_X11_rungBy (l : Launch) (S : Sx) {r : Int32 × Wd} {F : Nat} {w : Wd} {x1 : Int32} {x2 : Int32}  (h : P_X11_rungBy F w x1 x2 = some r) : Met l yX11_rungBy (wsg yX11_rungBy cX11_rungBy 3 (some .int)) rm_X11_rungBy (PC S w [rf S 88, .int x1, .int x2]) (QCi S r) 0 0 (Aw S) :=
  met_i (by decide) rfl (Nat.le_of_ble_eq_true rfl) ⟨rfl, rfl⟩ (fun X hX hR => s_X11_rungBy  hX hR h)
