-- MustNotStopModel.loudBy([III)I
abbrev rm_X11_loudBy : Room := { frames := 4, cells := 0, slots := 0, locals := 129 }
theorem nk_X11_loudBy : MNk yX11_loudBy RX11 3 := ⟨rfl, by decide, by decide, by decide +kernel⟩
def P_X11_loudBy (F : Nat) (w : Wd) (a1 : Nat) (x2 : Int32) (x3 : Int32) : Option (Int32 × Wd) := (if x2 = 0 then some (0, w) else gd (inB 9 (alen a1)) ((if (gI w a1 9) = 0 then some (0, w) else bnd (P_X11_sumOf F w x2 90) (fun x8 w7 => gd (inB 0 7) (lt (sI w7 102 0 x8) (fun w10 => gd (inB 1 7) (lt (sI w10 102 1 x3) (fun w12 => bnd (P_J6_bitCount_0f7a4 F w12 x2) (fun x14 w13 => gd (inB 2 7) (lt (sI w13 102 2 x14) (fun w16 => gd (inB 0 3) (gd (inB 3 7) (lt (sI w16 102 3 (gI w16 94 0)) (fun w19 => gd (inB 1 3) (gd (inB 4 7) (lt (sI w19 102 4 (gI w19 94 1)) (fun w22 => gd (inB 9 (alen a1)) (gd (inB 5 7) (lt (sI w22 102 5 (gI w22 a1 9)) (fun w25 => gd (inB 10 (alen a1)) (gd (inB 6 7) (lt (sI w25 102 6 (iremI (gI w25 a1 10) 60)) (fun w29 => bnd (P_X11_ruled F w29 ) (fun x31 w30 => some (x31, w30)))))))))))))))))))))))))
set_option maxRecDepth 100000 in
set_option maxHeartbeats 4000000 in
theorem s_X11_loudBy {X : Cx} {S : Sx} {r : Int32 × Wd} {F : Nat} {w : Wd} {a1 : Nat} {x2 : Int32} {x3 : Int32} (ha1 : isIA a1 = true) (hX : Ok X S cX11_loudBy RX11 4 rm_X11_loudBy) (hR : HRt X S cX11_loudBy .int r) (hP : P_X11_loudBy F w a1 x2 x3 = some r) : V X S w 0 [(0, rf S 88), (1, rf S a1), (2, .int x2), (3, .int x3)] [] := by
  unfold P_X11_loudBy at hP
  refine V_iload_n hX dX11_loudBy_0 2 rfl ?_
  refine V_if_eq (tgt := 11) hX dX11_loudBy_1 (by decide) (fun hc4 => ?_) (fun hc4 => ?_)
  · replace hP := ite_t hc4 hP
    refine V_iconst (v := 0) hX dX11_loudBy_11 (by decide) ?_
    exact hR _ _ _ _ (Option.some.inj hP) rfl dX11_loudBy_12
  · replace hP := ite_f hc4 hP
    refine V_aload_n hX dX11_loudBy_4 1 rfl ?_
    refine V_bipush (v := 9) hX dX11_loudBy_5 (by decide) ?_
    obtain ⟨hi5, hP⟩ := gd_e hP
    refine V_iald hX (tb_IA ha1) hi5 dX11_loudBy_7 ?_
    refine V_if_ne (tgt := 13) hX dX11_loudBy_8 (by decide) (fun hc6 => ?_) (fun hc6 => ?_)
    · replace hP := ite_f hc6 hP
      refine V_aload_n hX dX11_loudBy_13 0 rfl ?_
      refine V_getF (j := 102) hX fk_X11_50 tb_88 (fun _ _ _ => rfl) dX11_loudBy_14 ?_
      refine V_iconst (v := 0) hX dX11_loudBy_17 (by decide) ?_
      refine V_aload_n hX dX11_loudBy_18 0 rfl ?_
      refine V_iload_n hX dX11_loudBy_19 2 rfl ?_
      refine V_aload_n hX dX11_loudBy_20 0 rfl ?_
      refine V_getF (j := 90) hX fk_X11_13 tb_88 (fun _ _ _ => rfl) dX11_loudBy_21 ?_
      obtain ⟨x8, w7, hcw7, hP⟩ := bnd_e hP
      refine V_callVi (As := [.int x2, rf S 90]) (rest := [.int 0, rf S 102]) hX mk_X11_244 nk_X11_sumOf (fun l => c_X11_sumOf l S (by decide) hcw7) tb_88 rfl ⟨rfl, rfl, Nat.le_of_ble_eq_true rfl, Nat.le_of_ble_eq_true rfl⟩ rfl rfl (Nat.le_of_ble_eq_true rfl) dX11_loudBy_24 ?_
      obtain ⟨hi9, hP⟩ := gd_e hP
      refine V_iast hX tb_102 hi9 dX11_loudBy_27 (fun w10 ew10 => ?_)
      replace hP := lt_r ew10 hP
      refine V_aload_n hX dX11_loudBy_28 0 rfl ?_
      refine V_getF (j := 102) hX fk_X11_50 tb_88 (fun _ _ _ => rfl) dX11_loudBy_29 ?_
      refine V_iconst (v := 1) hX dX11_loudBy_32 (by decide) ?_
      refine V_iload_n hX dX11_loudBy_33 3 rfl ?_
      obtain ⟨hi11, hP⟩ := gd_e hP
      refine V_iast hX tb_102 hi11 dX11_loudBy_34 (fun w12 ew12 => ?_)
      replace hP := lt_r ew12 hP
      refine V_aload_n hX dX11_loudBy_35 0 rfl ?_
      refine V_getF (j := 102) hX fk_X11_50 tb_88 (fun _ _ _ => rfl) dX11_loudBy_36 ?_
      refine V_iconst (v := 2) hX dX11_loudBy_39 (by decide) ?_
      refine V_iload_n hX dX11_loudBy_40 2 rfl ?_
      obtain ⟨x14, w13, hcw13, hP⟩ := bnd_e hP
      refine V_callSi (As := [.int x2]) (rest := [.int 2, rf S 102]) hX mk_X11_248 nk_J6_bitCount_0f7a4 (fun l => c_J6_bitCount_0f7a4 l S  hcw13) ⟨rfl, rfl, Nat.le_of_ble_eq_true rfl, Nat.le_of_ble_eq_true rfl⟩ rfl rfl (Nat.le_of_ble_eq_true rfl) dX11_loudBy_41 ?_
      obtain ⟨hi15, hP⟩ := gd_e hP
      refine V_iast hX tb_102 hi15 dX11_loudBy_44 (fun w16 ew16 => ?_)
      replace hP := lt_r ew16 hP
      refine V_aload_n hX dX11_loudBy_45 0 rfl ?_
      refine V_getF (j := 102) hX fk_X11_50 tb_88 (fun _ _ _ => rfl) dX11_loudBy_46 ?_
      refine V_iconst (v := 3) hX dX11_loudBy_49 (by decide) ?_
      refine V_aload_n hX dX11_loudBy_50 0 rfl ?_
      refine V_getF (j := 94) hX fk_X11_26 tb_88 (fun _ _ _ => rfl) dX11_loudBy_51 ?_
      refine V_iconst (v := 0) hX dX11_loudBy_54 (by decide) ?_
      obtain ⟨hi17, hP⟩ := gd_e hP
      refine V_iald hX tb_94 hi17 dX11_loudBy_55 ?_
      obtain ⟨hi18, hP⟩ := gd_e hP
      refine V_iast hX tb_102 hi18 dX11_loudBy_56 (fun w19 ew19 => ?_)
      replace hP := lt_r ew19 hP
      refine V_aload_n hX dX11_loudBy_57 0 rfl ?_
      refine V_getF (j := 102) hX fk_X11_50 tb_88 (fun _ _ _ => rfl) dX11_loudBy_58 ?_
      refine V_iconst (v := 4) hX dX11_loudBy_61 (by decide) ?_
      refine V_aload_n hX dX11_loudBy_62 0 rfl ?_
      refine V_getF (j := 94) hX fk_X11_26 tb_88 (fun _ _ _ => rfl) dX11_loudBy_63 ?_
      refine V_iconst (v := 1) hX dX11_loudBy_66 (by decide) ?_
      obtain ⟨hi20, hP⟩ := gd_e hP
      refine V_iald hX tb_94 hi20 dX11_loudBy_67 ?_
      obtain ⟨hi21, hP⟩ := gd_e hP
      refine V_iast hX tb_102 hi21 dX11_loudBy_68 (fun w22 ew22 => ?_)
      replace hP := lt_r ew22 hP
      refine V_aload_n hX dX11_loudBy_69 0 rfl ?_
      refine V_getF (j := 102) hX fk_X11_50 tb_88 (fun _ _ _ => rfl) dX11_loudBy_70 ?_
      refine V_iconst (v := 5) hX dX11_loudBy_73 (by decide) ?_
      refine V_aload_n hX dX11_loudBy_74 1 rfl ?_
      refine V_bipush (v := 9) hX dX11_loudBy_75 (by decide) ?_
      obtain ⟨hi23, hP⟩ := gd_e hP
      refine V_iald hX (tb_IA ha1) hi23 dX11_loudBy_77 ?_
      obtain ⟨hi24, hP⟩ := gd_e hP
      refine V_iast hX tb_102 hi24 dX11_loudBy_78 (fun w25 ew25 => ?_)
      replace hP := lt_r ew25 hP
      refine V_aload_n hX dX11_loudBy_79 0 rfl ?_
      refine V_getF (j := 102) hX fk_X11_50 tb_88 (fun _ _ _ => rfl) dX11_loudBy_80 ?_
      refine V_bipush (v := 6) hX dX11_loudBy_83 (by decide) ?_
      refine V_aload_n hX dX11_loudBy_85 1 rfl ?_
      refine V_bipush (v := 10) hX dX11_loudBy_86 (by decide) ?_
      obtain ⟨hi26, hP⟩ := gd_e hP
      refine V_iald hX (tb_IA ha1) hi26 dX11_loudBy_88 ?_
      refine V_bipush (v := 60) hX dX11_loudBy_89 (by decide) ?_
      refine V_irem hX dX11_loudBy_91 (by decide) ?_
      obtain ⟨hi28, hP⟩ := gd_e hP
      refine V_iast hX tb_102 hi28 dX11_loudBy_92 (fun w29 ew29 => ?_)
      replace hP := lt_r ew29 hP
      refine V_aload_n hX dX11_loudBy_93 0 rfl ?_
      obtain ⟨x31, w30, hcw30, hP⟩ := bnd_e hP
      refine V_callVi (As := []) (rest := []) hX mk_X11_253 nk_X11_ruled (fun l => c_X11_ruled l S  hcw30) tb_88 rfl ⟨rfl, rfl, Nat.le_of_ble_eq_true rfl, Nat.le_of_ble_eq_true rfl⟩ rfl rfl (Nat.le_of_ble_eq_true rfl) dX11_loudBy_94 ?_
      exact hR _ _ _ _ (Option.some.inj hP) rfl dX11_loudBy_97
    · replace hP := ite_t hc6 hP
      refine V_iconst (v := 0) hX dX11_loudBy_11 (by decide) ?_
      exact hR _ _ _ _ (Option.some.inj hP) rfl dX11_loudBy_12
theorem c_X11_loudBy (l : Launch) (S : Sx) {r : Int32 × Wd} {F : Nat} {w : Wd} {a1 : Nat} {x2 : Int32} {x3 : Int32} (ha1 : isIA a1 = true) (h : P_X11_loudBy F w a1 x2 x3 = some r) : Met l yX11_loudBy (wsg yX11_loudBy cX11_loudBy 4 (some .int)) rm_X11_loudBy (PC S w [rf S 88, rf S a1, .int x2, .int x3]) (QCi S r) 0 0 (Aw S) :=
  met_i (by decide) rfl (Nat.le_of_ble_eq_true rfl) ⟨rfl, rfl⟩ (fun X hX hR => s_X11_loudBy ha1 hX hR h)

-- MustNotStopModel.loudOf([II)I
abbrev rm_X11_loudOf : Room := { frames := 5, cells := 0, slots := 0, locals := 152 }
theorem nk_X11_loudOf : MNk yX11_loudOf RX11 2 := ⟨rfl, by decide, by decide, by decide +kernel⟩
def P_X11_loudOf (F : Nat) (w : Wd) (a1 : Nat) (x2 : Int32) : Option (Int32 × Wd) := bnd (P_X11_sumOf F w x2 a1) (fun x4 w3 => bnd (P_X11_loudBy F w3 a1 x2 x4) (fun x6 w5 => some (x6, w5)))
set_option maxRecDepth 100000 in
set_option maxHeartbeats 4000000 in
theorem s_X11_loudOf {X : Cx} {S : Sx} {r : Int32 × Wd} {F : Nat} {w : Wd} {a1 : Nat} {x2 : Int32} (ha1 : isIA a1 = true) (hX : Ok X S cX11_loudOf RX11 3 rm_X11_loudOf) (hR : HRt X S cX11_loudOf .int r) (hP : P_X11_loudOf F w a1 x2 = some r) : V X S w 0 [(0, rf S 88), (1, rf S a1), (2, .int x2)] [] := by
  unfold P_X11_loudOf at hP
  refine V_aload_n hX dX11_loudOf_0 0 rfl ?_
  refine V_aload_n hX dX11_loudOf_1 1 rfl ?_
  refine V_iload_n hX dX11_loudOf_2 2 rfl ?_
  refine V_aload_n hX dX11_loudOf_3 0 rfl ?_
  refine V_iload_n hX dX11_loudOf_4 2 rfl ?_
  refine V_aload_n hX dX11_loudOf_5 1 rfl ?_
  obtain ⟨x4, w3, hcw3, hP⟩ := bnd_e hP
  refine V_callVi (As := [.int x2, rf S a1]) (rest := [.int x2, rf S a1, rf S 88]) hX mk_X11_244 nk_X11_sumOf (fun l => c_X11_sumOf l S ha1 hcw3) tb_88 rfl ⟨rfl, rfl, Nat.le_of_ble_eq_true rfl, Nat.le_of_ble_eq_true rfl⟩ rfl rfl (Nat.le_of_ble_eq_true rfl) dX11_loudOf_6 ?_
  obtain ⟨x6, w5, hcw5, hP⟩ := bnd_e hP
  refine V_callVi (As := [rf S a1, .int x2, .int x4]) (rest := []) hX mk_X11_256 nk_X11_loudBy (fun l => c_X11_loudBy l S ha1 hcw5) tb_88 rfl ⟨rfl, rfl, Nat.le_of_ble_eq_true rfl, Nat.le_of_ble_eq_true rfl⟩ rfl rfl (Nat.le_of_ble_eq_true rfl) dX11_loudOf_9 ?_
  exact hR _ _ _ _ (Option.some.inj hP) rfl dX11_loudOf_12
theorem c_X11_loudOf (l : Launch) (S : Sx) {r : Int32 × Wd} {F : Nat} {w : Wd} {a1 : Nat} {x2 : Int32} (ha1 : isIA a1 = true) (h : P_X11_loudOf F w a1 x2 = some r) : Met l yX11_loudOf (wsg yX11_loudOf cX11_loudOf 3 (some .int)) rm_X11_loudOf (PC S w [rf S 88, rf S a1, .int x2]) (QCi S r) 0 0 (Aw S) :=
  met_i (by decide) rfl (Nat.le_of_ble_eq_true rfl) ⟨rfl, rfl⟩ (fun X hX hR => s_X11_loudOf ha1 hX hR h)

-- MustNotStopModel.ringer(II)I
abbrev rm_X11_ringer : Room := { frames := 6, cells := 0, slots := 0, locals := 174 }
theorem nk_X11_ringer : MNk yX11_ringer RX11 2 := ⟨rfl, by decide, by decide, by decide +kernel⟩
def K_X11_ringer_25 (F : Nat) (x1 : Int32) (x2 : Int32)  (w : Wd)  : Option (Int32 × Wd) := bnd (P_X11_refuse F w ) (fun x8 w7 => some (x8, w7))
set_option maxRecDepth 100000 in
set_option maxHeartbeats 4000000 in
theorem sK_X11_ringer_25 {X : Cx} {S : Sx} {r : Int32 × Wd} {F : Nat} {x1 : Int32} {x2 : Int32}  {w : Wd}  (hX : Ok X S cX11_ringer RX11 3 rm_X11_ringer) (hR : HRt X S cX11_ringer .int r)    (hP : K_X11_ringer_25 F x1 x2  w  = some r) : V X S w 25 [(0, rf S 88)] [] := by
  unfold K_X11_ringer_25 at hP
  refine V_aload_n hX dX11_ringer_25 0 rfl ?_
  obtain ⟨x8, w7, hcw7, hP⟩ := bnd_e hP
  refine V_callVi (As := []) (rest := []) hX mk_X11_265 nk_X11_refuse (fun l => c_X11_refuse l S  hcw7) tb_88 rfl ⟨rfl, rfl, Nat.le_of_ble_eq_true rfl, Nat.le_of_ble_eq_true rfl⟩ rfl rfl (Nat.le_of_ble_eq_true rfl) dX11_ringer_26 ?_
  exact hR _ _ _ _ (Option.some.inj hP) rfl dX11_ringer_29
def P_X11_ringer (F : Nat) (w : Wd) (x1 : Int32) (x2 : Int32) : Option (Int32 × Wd) := lt (sI w 88 0 0) (fun w3 => bnd (P_X11_isRinger F w3 x1) (fun x5 w4 => (if x5 = 0 then K_X11_ringer_25 F x1 x2  w4  else bnd (P_X11_in F w4 (Int32.toInt64 x2) 0 4) (fun x10 w9 => (if x10 = 0 then K_X11_ringer_25 F x1 x2  w9  else (if x2 = 0 then gd (inB x1 8) (some (gI w9 90 x1.toNatClampNeg, w9)) else (if x2 = 1 then gd (inB x1 8) (some (gI w9 91 x1.toNatClampNeg, w9)) else (if x2 = 2 then gd (inB x1 16) (some (gI w9 95 x1.toNatClampNeg, w9)) else (if x2 = 3 then gd (inB 8 16) (bnd (P_X11_has F w9 (gI w9 95 8) x1) (fun x21 w20 => bnd (P_X11_flag F w20 x21) (fun x23 w22 => some (x23, w22)))) else bnd (P_X11_loudOf F w9 95 (ishlI 1 x1)) (fun x25 w24 => some (x25, w24)))))))))))
set_option maxRecDepth 100000 in
set_option maxHeartbeats 4000000 in
theorem s_X11_ringer {X : Cx} {S : Sx} {r : Int32 × Wd} {F : Nat} {w : Wd} {x1 : Int32} {x2 : Int32}  (hX : Ok X S cX11_ringer RX11 3 rm_X11_ringer) (hR : HRt X S cX11_ringer .int r) (hP : P_X11_ringer F w x1 x2 = some r) : V X S w 0 [(0, rf S 88), (1, .int x1), (2, .int x2)] [] := by
  unfold P_X11_ringer at hP
  refine V_aload_n hX dX11_ringer_0 0 rfl ?_
  refine V_iconst (v := 0) hX dX11_ringer_1 (by decide) ?_
  refine V_putI hX fw_X11_102 tb_88 (fun _ _ _ => ⟨Nat.le_of_ble_eq_true rfl, rfl⟩) dX11_ringer_2 (fun w3 ew3 => ?_)
  replace hP := lt_r ew3 hP
  refine V_aload_n hX dX11_ringer_5 0 rfl ?_
  refine V_iload_n hX dX11_ringer_6 1 rfl ?_
  obtain ⟨x5, w4, hcw4, hP⟩ := bnd_e hP
  refine V_callVi (As := [.int x1]) (rest := []) hX mk_X11_260 nk_X11_isRinger (fun l => c_X11_isRinger l S  hcw4) tb_88 rfl ⟨rfl, rfl, Nat.le_of_ble_eq_true rfl, Nat.le_of_ble_eq_true rfl⟩ rfl rfl (Nat.le_of_ble_eq_true rfl) dX11_ringer_7 ?_
  refine V_if_eq (tgt := 25) hX dX11_ringer_10 (by decide) (fun hc6 => ?_) (fun hc6 => ?_)
  · replace hP := ite_t hc6 hP
    refine V_sub (lv' := [(0, rf S 88)]) [0] rfl ?_
    exact sK_X11_ringer_25 hX hR    hP
  · replace hP := ite_f hc6 hP
    refine V_iload_n hX dX11_ringer_13 2 rfl ?_
    refine V_i2l hX dX11_ringer_14 ?_
    refine V_lconst (v := 0) hX dX11_ringer_15 rfl ?_
    refine V_ldc2 (v := 4) hX dX11_ringer_16 cn_X11_263 ?_
    obtain ⟨x10, w9, hcw9, hP⟩ := bnd_e hP
    refine V_callSi (As := [.long (Int32.toInt64 x2), .long 0, .long 4]) (rest := []) hX mk_X11_116 nk_X11_in (fun l => c_X11_in l S  hcw9) ⟨rfl, rfl, Nat.le_of_ble_eq_true rfl, Nat.le_of_ble_eq_true rfl⟩ rfl rfl (Nat.le_of_ble_eq_true rfl) dX11_ringer_19 ?_
    refine V_if_ne (tgt := 30) hX dX11_ringer_22 (by decide) (fun hc11 => ?_) (fun hc11 => ?_)
    · replace hP := ite_f hc11 hP
      refine V_iload_n hX dX11_ringer_30 2 rfl ?_
      by_cases hc12 : x2 = 0
      · replace hP := ite_t hc12 hP
        refine V_tableIn (tgt := 60) hX dX11_ringer_31 (by rw [hc12]; decide) (by rw [hc12]; decide) (by rw [hc12] <;> rfl) (by decide) ?_
        refine V_aload_n hX dX11_ringer_60 0 rfl ?_
        refine V_getF (j := 90) hX fk_X11_13 tb_88 (fun _ _ _ => rfl) dX11_ringer_61 ?_
        refine V_iload_n hX dX11_ringer_64 1 rfl ?_
        obtain ⟨hi13, hP⟩ := gd_e hP
        refine V_iald hX tb_90 hi13 dX11_ringer_65 ?_
        exact hR _ _ _ _ (Option.some.inj hP) rfl dX11_ringer_66
      replace hP := ite_f hc12 hP
      by_cases hc14 : x2 = 1
      · replace hP := ite_t hc14 hP
        refine V_tableIn (tgt := 67) hX dX11_ringer_31 (by rw [hc14]; decide) (by rw [hc14]; decide) (by rw [hc14] <;> rfl) (by decide) ?_
        refine V_aload_n hX dX11_ringer_67 0 rfl ?_
        refine V_getF (j := 91) hX fk_X11_17 tb_88 (fun _ _ _ => rfl) dX11_ringer_68 ?_
        refine V_iload_n hX dX11_ringer_71 1 rfl ?_
        obtain ⟨hi15, hP⟩ := gd_e hP
        refine V_iald hX tb_91 hi15 dX11_ringer_72 ?_
        exact hR _ _ _ _ (Option.some.inj hP) rfl dX11_ringer_73
      replace hP := ite_f hc14 hP
      by_cases hc16 : x2 = 2
      · replace hP := ite_t hc16 hP
        refine V_tableIn (tgt := 74) hX dX11_ringer_31 (by rw [hc16]; decide) (by rw [hc16]; decide) (by rw [hc16] <;> rfl) (by decide) ?_
        refine V_aload_n hX dX11_ringer_74 0 rfl ?_
        refine V_getF (j := 95) hX fk_X11_29 tb_88 (fun _ _ _ => rfl) dX11_ringer_75 ?_
        refine V_iload_n hX dX11_ringer_78 1 rfl ?_
        obtain ⟨hi17, hP⟩ := gd_e hP
        refine V_iald hX tb_95 hi17 dX11_ringer_79 ?_
        exact hR _ _ _ _ (Option.some.inj hP) rfl dX11_ringer_80
      replace hP := ite_f hc16 hP
      by_cases hc18 : x2 = 3
      · replace hP := ite_t hc18 hP
        refine V_tableIn (tgt := 81) hX dX11_ringer_31 (by rw [hc18]; decide) (by rw [hc18]; decide) (by rw [hc18] <;> rfl) (by decide) ?_
        refine V_aload_n hX dX11_ringer_81 0 rfl ?_
        refine V_getF (j := 95) hX fk_X11_29 tb_88 (fun _ _ _ => rfl) dX11_ringer_82 ?_
        refine V_bipush (v := 8) hX dX11_ringer_85 (by decide) ?_
        obtain ⟨hi19, hP⟩ := gd_e hP
        refine V_iald hX tb_95 hi19 dX11_ringer_87 ?_
        refine V_iload_n hX dX11_ringer_88 1 rfl ?_
        obtain ⟨x21, w20, hcw20, hP⟩ := bnd_e hP
        refine V_callSi (As := [.int (gI w9 95 8), .int x1]) (rest := []) hX mk_X11_240 nk_X11_has (fun l => c_X11_has l S  hcw20) ⟨rfl, rfl, Nat.le_of_ble_eq_true rfl, Nat.le_of_ble_eq_true rfl⟩ rfl rfl (Nat.le_of_ble_eq_true rfl) dX11_ringer_89 ?_
        obtain ⟨x23, w22, hcw22, hP⟩ := bnd_e hP
        refine V_callSi (As := [.int x21]) (rest := []) hX mk_X11_138 nk_X11_flag (fun l => c_X11_flag l S  hcw22) ⟨rfl, rfl, Nat.le_of_ble_eq_true rfl, Nat.le_of_ble_eq_true rfl⟩ rfl rfl (Nat.le_of_ble_eq_true rfl) dX11_ringer_92 ?_
        exact hR _ _ _ _ (Option.some.inj hP) rfl dX11_ringer_95
      replace hP := ite_f hc18 hP
      refine V_tableOut (tgt := 96) hX dX11_ringer_31 (ts_out (fun k h1 h2 => by
          have hk : k = 0 ∨ k = 1 ∨ k = 2 ∨ k = 3 := by omega
          rcases hk with rfl | rfl | rfl | rfl
          · exact fun e => hc12 (by rw [e]; rfl)
          · exact fun e => hc14 (by rw [e]; rfl)
          · exact fun e => hc16 (by rw [e]; rfl)
          · exact fun e => hc18 (by rw [e]; rfl)
          )) (by decide) ?_
      refine V_aload_n hX dX11_ringer_96 0 rfl ?_
      refine V_aload_n hX dX11_ringer_97 0 rfl ?_
      refine V_getF (j := 95) hX fk_X11_29 tb_88 (fun _ _ _ => rfl) dX11_ringer_98 ?_
      refine V_iconst (v := 1) hX dX11_ringer_101 (by decide) ?_
      refine V_iload_n hX dX11_ringer_102 1 rfl ?_
      refine V_ishl hX dX11_ringer_103 ?_
      obtain ⟨x25, w24, hcw24, hP⟩ := bnd_e hP
      refine V_callVi (As := [rf S 95, .int (ishlI 1 x1)]) (rest := []) hX mk_X11_268 nk_X11_loudOf (fun l => c_X11_loudOf l S (by decide) hcw24) tb_88 rfl ⟨rfl, rfl, Nat.le_of_ble_eq_true rfl, Nat.le_of_ble_eq_true rfl⟩ rfl rfl (Nat.le_of_ble_eq_true rfl) dX11_ringer_104 ?_
      exact hR _ _ _ _ (Option.some.inj hP) rfl dX11_ringer_107
    · replace hP := ite_t hc11 hP
      refine V_sub (lv' := [(0, rf S 88)]) [0] rfl ?_
      exact sK_X11_ringer_25 hX hR    hP
theorem c_X11_ringer (l : Launch) (S : Sx) {r : Int32 × Wd} {F : Nat} {w : Wd} {x1 : Int32} {x2 : Int32}  (h : P_X11_ringer F w x1 x2 = some r) : Met l yX11_ringer (wsg yX11_ringer cX11_ringer 3 (some .int)) rm_X11_ringer (PC S w [rf S 88, .int x1, .int x2]) (QCi S r) 0 0 (Aw S) :=
  met_i (by decide) rfl (Nat.le_of_ble_eq_true rfl) ⟨rfl, rfl⟩ (fun X hX hR => s_X11_ringer  hX hR h)

-- MustNotStopModel.person(II)I
abbrev rm_X11_person : Room := { frames := 2, cells := 0, slots := 0, locals := 89 }
theorem nk_X11_person : MNk yX11_person RX11 2 := ⟨rfl, by decide, by decide, by decide +kernel⟩
def K_X11_person_33 (F : Nat) (x1 : Int32) (x2 : Int32)  (w : Wd)  : Option (Int32 × Wd) := bnd (P_X11_refuse F w ) (fun x8 w7 => some (x8, w7))
set_option maxRecDepth 100000 in
set_option maxHeartbeats 4000000 in
theorem sK_X11_person_33 {X : Cx} {S : Sx} {r : Int32 × Wd} {F : Nat} {x1 : Int32} {x2 : Int32}  {w : Wd}  (hX : Ok X S cX11_person RX11 3 rm_X11_person) (hR : HRt X S cX11_person .int r)    (hP : K_X11_person_33 F x1 x2  w  = some r) : V X S w 33 [(0, rf S 88)] [] := by
  unfold K_X11_person_33 at hP
  refine V_aload_n hX dX11_person_33 0 rfl ?_
  obtain ⟨x8, w7, hcw7, hP⟩ := bnd_e hP
  refine V_callVi (As := []) (rest := []) hX mk_X11_265 nk_X11_refuse (fun l => c_X11_refuse l S  hcw7) tb_88 rfl ⟨rfl, rfl, Nat.le_of_ble_eq_true rfl, Nat.le_of_ble_eq_true rfl⟩ rfl rfl (Nat.le_of_ble_eq_true rfl) dX11_person_34 ?_
  exact hR _ _ _ _ (Option.some.inj hP) rfl dX11_person_37
def P_X11_person (F : Nat) (w : Wd) (x1 : Int32) (x2 : Int32) : Option (Int32 × Wd) := lt (sI w 88 0 0) (fun w3 => bnd (P_X11_in F w3 (Int32.toInt64 x1) 0 (Int32.toInt64 ((gI w3 88 4) - 1))) (fun x5 w4 => (if x5 = 0 then K_X11_person_33 F x1 x2  w4  else bnd (P_X11_in F w4 (Int32.toInt64 x2) 0 2) (fun x10 w9 => (if x10 = 0 then K_X11_person_33 F x1 x2  w9  else (if x2 = 0 then gd (inB x1 8) (some (gI w9 92 x1.toNatClampNeg, w9)) else (if x2 = 1 then gd (inB x1 8) (some (gI w9 93 x1.toNatClampNeg, w9)) else gd (inB 15 16) (bnd (P_X11_has F w9 (gI w9 95 15) x1) (fun x16 w15 => bnd (P_X11_flag F w15 x16) (fun x18 w17 => some (x18, w17)))))))))))
set_option maxRecDepth 100000 in
set_option maxHeartbeats 4000000 in
theorem s_X11_person {X : Cx} {S : Sx} {r : Int32 × Wd} {F : Nat} {w : Wd} {x1 : Int32} {x2 : Int32}  (hX : Ok X S cX11_person RX11 3 rm_X11_person) (hR : HRt X S cX11_person .int r) (hP : P_X11_person F w x1 x2 = some r) : V X S w 0 [(0, rf S 88), (1, .int x1), (2, .int x2)] [] := by
  unfold P_X11_person at hP
  refine V_aload_n hX dX11_person_0 0 rfl ?_
  refine V_iconst (v := 0) hX dX11_person_1 (by decide) ?_
  refine V_putI hX fw_X11_102 tb_88 (fun _ _ _ => ⟨Nat.le_of_ble_eq_true rfl, rfl⟩) dX11_person_2 (fun w3 ew3 => ?_)
  replace hP := lt_r ew3 hP
  refine V_iload_n hX dX11_person_5 1 rfl ?_
  refine V_i2l hX dX11_person_6 ?_
  refine V_lconst (v := 0) hX dX11_person_7 rfl ?_
  refine V_aload_n hX dX11_person_8 0 rfl ?_
  refine V_getI hX fk_X11_202 tb_88 (fun _ _ _ => rfl) dX11_person_9 ?_
  refine V_iconst (v := 1) hX dX11_person_12 (by decide) ?_
  refine V_isub hX dX11_person_13 ?_
  refine V_i2l hX dX11_person_14 ?_
  obtain ⟨x5, w4, hcw4, hP⟩ := bnd_e hP
  refine V_callSi (As := [.long (Int32.toInt64 x1), .long 0, .long (Int32.toInt64 ((gI w3 88 4) - 1))]) (rest := []) hX mk_X11_116 nk_X11_in (fun l => c_X11_in l S  hcw4) ⟨rfl, rfl, Nat.le_of_ble_eq_true rfl, Nat.le_of_ble_eq_true rfl⟩ rfl rfl (Nat.le_of_ble_eq_true rfl) dX11_person_15 ?_
  refine V_if_eq (tgt := 33) hX dX11_person_18 (by decide) (fun hc6 => ?_) (fun hc6 => ?_)
  · replace hP := ite_t hc6 hP
    refine V_sub (lv' := [(0, rf S 88)]) [0] rfl ?_
    exact sK_X11_person_33 hX hR    hP
  · replace hP := ite_f hc6 hP
    refine V_iload_n hX dX11_person_21 2 rfl ?_
    refine V_i2l hX dX11_person_22 ?_
    refine V_lconst (v := 0) hX dX11_person_23 rfl ?_
    refine V_ldc2 (v := 2) hX dX11_person_24 cn_X11_272 ?_
    obtain ⟨x10, w9, hcw9, hP⟩ := bnd_e hP
    refine V_callSi (As := [.long (Int32.toInt64 x2), .long 0, .long 2]) (rest := []) hX mk_X11_116 nk_X11_in (fun l => c_X11_in l S  hcw9) ⟨rfl, rfl, Nat.le_of_ble_eq_true rfl, Nat.le_of_ble_eq_true rfl⟩ rfl rfl (Nat.le_of_ble_eq_true rfl) dX11_person_27 ?_
    refine V_if_ne (tgt := 38) hX dX11_person_30 (by decide) (fun hc11 => ?_) (fun hc11 => ?_)
    · replace hP := ite_f hc11 hP
      refine V_iload_n hX dX11_person_38 2 rfl ?_
      refine V_if_ne (tgt := 51) hX dX11_person_39 (by decide) (fun hc12 => ?_) (fun hc12 => ?_)
      · replace hP := ite_f hc12 hP
        refine V_iload_n hX dX11_person_51 2 rfl ?_
        refine V_iconst (v := 1) hX dX11_person_52 (by decide) ?_
        refine V_icmp_ne (tgt := 65) hX dX11_person_53 (by decide) (fun hc13 => ?_) (fun hc13 => ?_)
        · replace hP := ite_f hc13 hP
          refine V_aload_n hX dX11_person_65 0 rfl ?_
          refine V_getF (j := 95) hX fk_X11_29 tb_88 (fun _ _ _ => rfl) dX11_person_66 ?_
          refine V_bipush (v := 15) hX dX11_person_69 (by decide) ?_
          obtain ⟨hi14, hP⟩ := gd_e hP
          refine V_iald hX tb_95 hi14 dX11_person_71 ?_
          refine V_iload_n hX dX11_person_72 1 rfl ?_
          obtain ⟨x16, w15, hcw15, hP⟩ := bnd_e hP
          refine V_callSi (As := [.int (gI w9 95 15), .int x1]) (rest := []) hX mk_X11_240 nk_X11_has (fun l => c_X11_has l S  hcw15) ⟨rfl, rfl, Nat.le_of_ble_eq_true rfl, Nat.le_of_ble_eq_true rfl⟩ rfl rfl (Nat.le_of_ble_eq_true rfl) dX11_person_73 ?_
          obtain ⟨x18, w17, hcw17, hP⟩ := bnd_e hP
          refine V_callSi (As := [.int x16]) (rest := []) hX mk_X11_138 nk_X11_flag (fun l => c_X11_flag l S  hcw17) ⟨rfl, rfl, Nat.le_of_ble_eq_true rfl, Nat.le_of_ble_eq_true rfl⟩ rfl rfl (Nat.le_of_ble_eq_true rfl) dX11_person_76 ?_
          exact hR _ _ _ _ (Option.some.inj hP) rfl dX11_person_79
        · replace hP := ite_t hc13 hP
          refine V_aload_n hX dX11_person_56 0 rfl ?_
          refine V_getF (j := 93) hX fk_X11_23 tb_88 (fun _ _ _ => rfl) dX11_person_57 ?_
          refine V_iload_n hX dX11_person_60 1 rfl ?_
          obtain ⟨hi19, hP⟩ := gd_e hP
          refine V_iald hX tb_93 hi19 dX11_person_61 ?_
          refine V_goto (tgt := 79) hX dX11_person_62 (by decide) ?_
          exact hR _ _ _ _ (Option.some.inj hP) rfl dX11_person_79
      · replace hP := ite_t hc12 hP
        refine V_aload_n hX dX11_person_42 0 rfl ?_
        refine V_getF (j := 92) hX fk_X11_20 tb_88 (fun _ _ _ => rfl) dX11_person_43 ?_
        refine V_iload_n hX dX11_person_46 1 rfl ?_
        obtain ⟨hi20, hP⟩ := gd_e hP
        refine V_iald hX tb_92 hi20 dX11_person_47 ?_
        refine V_goto (tgt := 79) hX dX11_person_48 (by decide) ?_
        exact hR _ _ _ _ (Option.some.inj hP) rfl dX11_person_79
    · replace hP := ite_t hc11 hP
      refine V_sub (lv' := [(0, rf S 88)]) [0] rfl ?_
      exact sK_X11_person_33 hX hR    hP
theorem c_X11_person (l : Launch) (S : Sx) {r : Int32 × Wd} {F : Nat} {w : Wd} {x1 : Int32} {x2 : Int32}  (h : P_X11_person F w x1 x2 = some r) : Met l yX11_person (wsg yX11_person cX11_person 3 (some .int)) rm_X11_person (PC S w [rf S 88, .int x1, .int x2]) (QCi S r) 0 0 (Aw S) :=
  met_i (by decide) rfl (Nat.le_of_ble_eq_true rfl) ⟨rfl, rfl⟩ (fun X hX hR => s_X11_person  hX hR h)

-- MustNotStopModel.loud()I
abbrev rm_X11_loud : Room := { frames := 6, cells := 0, slots := 0, locals := 174 }
theorem nk_X11_loud : MNk yX11_loud RX11 0 := ⟨rfl, by decide, by decide, by decide +kernel⟩
def P_X11_loud (F : Nat) (w : Wd)  : Option (Int32 × Wd) := lt (sI w 88 0 0) (fun w1 => gd (inB 8 16) (bnd (P_X11_loudOf F w1 95 (gI w1 95 8)) (fun x4 w3 => some (x4, w3))))
set_option maxRecDepth 100000 in
set_option maxHeartbeats 4000000 in
theorem s_X11_loud {X : Cx} {S : Sx} {r : Int32 × Wd} {F : Nat} {w : Wd}   (hX : Ok X S cX11_loud RX11 1 rm_X11_loud) (hR : HRt X S cX11_loud .int r) (hP : P_X11_loud F w  = some r) : V X S w 0 [(0, rf S 88)] [] := by
  unfold P_X11_loud at hP
  refine V_aload_n hX dX11_loud_0 0 rfl ?_
  refine V_iconst (v := 0) hX dX11_loud_1 (by decide) ?_
  refine V_putI hX fw_X11_102 tb_88 (fun _ _ _ => ⟨Nat.le_of_ble_eq_true rfl, rfl⟩) dX11_loud_2 (fun w1 ew1 => ?_)
  replace hP := lt_r ew1 hP
  refine V_aload_n hX dX11_loud_5 0 rfl ?_
  refine V_aload_n hX dX11_loud_6 0 rfl ?_
  refine V_getF (j := 95) hX fk_X11_29 tb_88 (fun _ _ _ => rfl) dX11_loud_7 ?_
  refine V_aload_n hX dX11_loud_10 0 rfl ?_
  refine V_getF (j := 95) hX fk_X11_29 tb_88 (fun _ _ _ => rfl) dX11_loud_11 ?_
  refine V_bipush (v := 8) hX dX11_loud_14 (by decide) ?_
  obtain ⟨hi2, hP⟩ := gd_e hP
  refine V_iald hX tb_95 hi2 dX11_loud_16 ?_
  obtain ⟨x4, w3, hcw3, hP⟩ := bnd_e hP
  refine V_callVi (As := [rf S 95, .int (gI w1 95 8)]) (rest := []) hX mk_X11_268 nk_X11_loudOf (fun l => c_X11_loudOf l S (by decide) hcw3) tb_88 rfl ⟨rfl, rfl, Nat.le_of_ble_eq_true rfl, Nat.le_of_ble_eq_true rfl⟩ rfl rfl (Nat.le_of_ble_eq_true rfl) dX11_loud_17 ?_
  exact hR _ _ _ _ (Option.some.inj hP) rfl dX11_loud_20
theorem c_X11_loud (l : Launch) (S : Sx) {r : Int32 × Wd} {F : Nat} {w : Wd}   (h : P_X11_loud F w  = some r) : Met l yX11_loud (wsg yX11_loud cX11_loud 1 (some .int)) rm_X11_loud (PC S w [rf S 88]) (QCi S r) 0 0 (Aw S) :=
  met_i (by decide) rfl (Nat.le_of_ble_eq_true rfl) ⟨rfl, rfl⟩ (fun X hX hR => s_X11_loud  hX hR h)

-- MustNotStopModel.set(II)I
abbrev rm_X11_set : Room := { frames := 2, cells := 0, slots := 0, locals := 89 }
theorem nk_X11_set : MNk yX11_set RX11 2 := ⟨rfl, by decide, by decide, by decide +kernel⟩
def P_X11_set (F : Nat) (w : Wd) (x1 : Int32) (x2 : Int32) : Option (Int32 × Wd) := lt (sI w 88 0 0) (fun w3 => bnd (P_X11_in F w3 (Int32.toInt64 x1) 0 2) (fun x5 w4 => (if x5 = 0 then some ((-1), w4) else lt (if x1 = 0 then 1 else 0 : Int64) (fun x8 => lt (if x1 = 0 then 30 else 9 : Int64) (fun x10 => bnd (P_X11_in F w4 (Int32.toInt64 x2) x8 x10) (fun x12 w11 => (if x12 = 0 then some ((-1), w11) else gd (inB x1 3) (lt (gI w11 94 x1.toNatClampNeg : Int32) (fun x15 => gd (inB x1 3) (lt (sI w11 94 x1.toNatClampNeg x2) (fun w17 => some (x15, w17))))))))))))
set_option maxRecDepth 100000 in
set_option maxHeartbeats 4000000 in
theorem s_X11_set {X : Cx} {S : Sx} {r : Int32 × Wd} {F : Nat} {w : Wd} {x1 : Int32} {x2 : Int32}  (hX : Ok X S cX11_set RX11 4 rm_X11_set) (hR : HRt X S cX11_set .int r) (hP : P_X11_set F w x1 x2 = some r) : V X S w 0 [(0, rf S 88), (1, .int x1), (2, .int x2)] [] := by
  unfold P_X11_set at hP
  refine V_aload_n hX dX11_set_0 0 rfl ?_
  refine V_iconst (v := 0) hX dX11_set_1 (by decide) ?_
  refine V_putI hX fw_X11_102 tb_88 (fun _ _ _ => ⟨Nat.le_of_ble_eq_true rfl, rfl⟩) dX11_set_2 (fun w3 ew3 => ?_)
  replace hP := lt_r ew3 hP
  refine V_iload_n hX dX11_set_5 1 rfl ?_
  refine V_i2l hX dX11_set_6 ?_
  refine V_lconst (v := 0) hX dX11_set_7 rfl ?_
  refine V_ldc2 (v := 2) hX dX11_set_8 cn_X11_272 ?_
  obtain ⟨x5, w4, hcw4, hP⟩ := bnd_e hP
  refine V_callSi (As := [.long (Int32.toInt64 x1), .long 0, .long 2]) (rest := []) hX mk_X11_116 nk_X11_in (fun l => c_X11_in l S  hcw4) ⟨rfl, rfl, Nat.le_of_ble_eq_true rfl, Nat.le_of_ble_eq_true rfl⟩ rfl rfl (Nat.le_of_ble_eq_true rfl) dX11_set_11 ?_
  refine V_if_eq (tgt := 47) hX dX11_set_14 (by decide) (fun hc6 => ?_) (fun hc6 => ?_)
  · replace hP := ite_t hc6 hP
    refine V_iconst (v := (-1)) hX dX11_set_47 (by decide) ?_
    exact hR _ _ _ _ (Option.some.inj hP) rfl dX11_set_48
  · replace hP := ite_f hc6 hP
    refine V_iload_n hX dX11_set_17 2 rfl ?_
    refine V_i2l hX dX11_set_18 ?_
    refine V_iload_n hX dX11_set_19 1 rfl ?_
    have k19 : V X S w4 28 [(0, rf S 88), (1, .int x1), (2, .int x2)] [.long (if x1 = 0 then 1 else 0), .long (Int32.toInt64 x2)] := by
      refine V_topl (fun x8 ex8 => ?_)
      replace hP := lt_r ex8 hP
      refine V_iload_n hX dX11_set_28 1 rfl ?_
      have k18 : V X S w4 41 [(0, rf S 88), (1, .int x1), (2, .int x2)] [.long (if x1 = 0 then 30 else 9), .long x8, .long (Int32.toInt64 x2)] := by
        refine V_topl (fun x10 ex10 => ?_)
        replace hP := lt_r ex10 hP
        obtain ⟨x12, w11, hcw11, hP⟩ := bnd_e hP
        refine V_callSi (As := [.long (Int32.toInt64 x2), .long x8, .long x10]) (rest := []) hX mk_X11_116 nk_X11_in (fun l => c_X11_in l S  hcw11) ⟨rfl, rfl, Nat.le_of_ble_eq_true rfl, Nat.le_of_ble_eq_true rfl⟩ rfl rfl (Nat.le_of_ble_eq_true rfl) dX11_set_41 ?_
        refine V_if_ne (tgt := 49) hX dX11_set_44 (by decide) (fun hc13 => ?_) (fun hc13 => ?_)
        · replace hP := ite_f hc13 hP
          refine V_aload_n hX dX11_set_49 0 rfl ?_
          refine V_getF (j := 94) hX fk_X11_26 tb_88 (fun _ _ _ => rfl) dX11_set_50 ?_
          refine V_iload_n hX dX11_set_53 1 rfl ?_
          obtain ⟨hi14, hP⟩ := gd_e hP
          refine V_iald hX tb_94 hi14 dX11_set_54 ?_
          refine V_topi (fun x15 ex15 => ?_)
          replace hP := lt_r ex15 hP
          refine V_istore_n (lv' := [(3, .int x15), (0, rf S 88), (1, .int x1), (2, .int x2)]) hX dX11_set_55 (by decide) rfl ?_
          refine V_aload_n hX dX11_set_56 1 rfl ?_
          refine V_getF (j := 94) hX fk_X11_26 tb_88 (fun _ _ _ => rfl) dX11_set_57 ?_
          refine V_iload_n hX dX11_set_60 2 rfl ?_
          refine V_iload_n hX dX11_set_61 3 rfl ?_
          obtain ⟨hi16, hP⟩ := gd_e hP
          refine V_iast hX tb_94 hi16 dX11_set_62 (fun w17 ew17 => ?_)
          replace hP := lt_r ew17 hP
          refine V_iload_n hX dX11_set_63 0 rfl ?_
          exact hR _ _ _ _ (Option.some.inj hP) rfl dX11_set_64
        · replace hP := ite_t hc13 hP
          refine V_iconst (v := (-1)) hX dX11_set_47 (by decide) ?_
          exact hR _ _ _ _ (Option.some.inj hP) rfl dX11_set_48
      refine V_if_ne (tgt := 38) hX dX11_set_29 (by decide) (fun hc9 => ?_) (fun hc9 => ?_)
      · refine V_ldc2 (v := 9) hX dX11_set_38 cn_X11_276 ?_
        refine V_selFl (c := x1 = 0) (a := 30) hc9 ?_
        exact k18
      · refine V_ldc2 (v := 30) hX dX11_set_32 cn_X11_274 ?_
        refine V_goto (tgt := 41) hX dX11_set_35 (by decide) ?_
        refine V_selTl (c := x1 = 0) (b := 9) hc9 ?_
        exact k18
    refine V_if_ne (tgt := 27) hX dX11_set_20 (by decide) (fun hc7 => ?_) (fun hc7 => ?_)
    · refine V_lconst (v := 0) hX dX11_set_27 rfl ?_
      refine V_selFl (c := x1 = 0) (a := 1) hc7 ?_
      exact k19
    · refine V_lconst (v := 1) hX dX11_set_23 rfl ?_
      refine V_goto (tgt := 28) hX dX11_set_24 (by decide) ?_
      refine V_selTl (c := x1 = 0) (b := 0) hc7 ?_
      exact k19
theorem c_X11_set (l : Launch) (S : Sx) {r : Int32 × Wd} {F : Nat} {w : Wd} {x1 : Int32} {x2 : Int32}  (h : P_X11_set F w x1 x2 = some r) : Met l yX11_set (wsg yX11_set cX11_set 4 (some .int)) rm_X11_set (PC S w [rf S 88, .int x1, .int x2]) (QCi S r) 0 0 (Aw S) :=
  met_i (by decide) rfl (Nat.le_of_ble_eq_true rfl) ⟨rfl, rfl⟩ (fun X hX hR => s_X11_set  hX hR h)

-- MustNotStopModel.sheet(IIII)I
abbrev rm_X11_sheet : Room := { frames := 2, cells := 0, slots := 0, locals := 89 }
theorem nk_X11_sheet : MNk yX11_sheet RX11 4 := ⟨rfl, by decide, by decide, by decide +kernel⟩
def K_X11_sheet_112 (F : Nat) (x1 : Int32) (x2 : Int32) (x3 : Int32) (x4 : Int32) (k138 : Wd → Int32 → Option (Int32 × Wd)) (rc : Wd → Int32 → Int32 → Int32 → Option (Int32 × Wd)) (w : Wd) (x24 : Int32) (x25 : Int32) (x26 : Int32) (x27 : Int32) (x28 : Int32) : Option (Int32 × Wd) := gd (inB x28 16) (lt (sI w 95 x28.toNatClampNeg x27) (fun w30 => gd (inB x26 16) (lt (x24 + (gI w30 95 x26.toNatClampNeg) : Int32) (fun x32 => lt (x25 + x4 : Int32) (fun x33 => lt (x26 + 1 : Int32) (fun x34 => rc w30 x32 x33 x34))))))
set_option maxRecDepth 100000 in
set_option maxHeartbeats 4000000 in
theorem sK_X11_sheet_112 {X : Cx} {S : Sx} {r : Int32 × Wd} {F : Nat} {x1 : Int32} {x2 : Int32} {x3 : Int32} {x4 : Int32} {k138 : Wd → Int32 → Option (Int32 × Wd)} {rc : Wd → Int32 → Int32 → Int32 → Option (Int32 × Wd)} {w : Wd} {x24 : Int32} {x25 : Int32} {x26 : Int32} {x27 : Int32} {x28 : Int32} (hX : Ok X S cX11_sheet RX11 9 rm_X11_sheet) (hR : HRt X S cX11_sheet .int r)  (hk138 : ∀ (w : Wd) (x14 : Int32) , k138 w x14 = some r → V X S w 138 [(1, .int x1), (5, .int x14)] []) (hrc : ∀ (w : Wd) (x11 : Int32) (x12 : Int32) (x13 : Int32) , rc w x11 x12 x13 = some r → V X S w 46 [(0, rf S 88), (1, .int x1), (2, .int x2), (4, .int x4), (5, .int x11), (6, .int x12), (7, .int x13), (3, .int x3)] [])  (hP : K_X11_sheet_112 F x1 x2 x3 x4 k138 rc w x24 x25 x26 x27 x28 = some r) : V X S w 112 [(0, rf S 88), (1, .int x1), (2, .int x2), (3, .int x3), (4, .int x4), (5, .int x24), (6, .int x25), (7, .int x26)] [.int x27, .int x28, rf S 95] := by
  unfold K_X11_sheet_112 at hP
  obtain ⟨hi29, hP⟩ := gd_e hP
  refine V_iast hX tb_95 hi29 dX11_sheet_112 (fun w30 ew30 => ?_)
  replace hP := lt_r ew30 hP
  refine V_iload hX dX11_sheet_113 5 rfl ?_
  refine V_aload_n hX dX11_sheet_115 0 rfl ?_
  refine V_getF (j := 95) hX fk_X11_29 tb_88 (fun _ _ _ => rfl) dX11_sheet_116 ?_
  refine V_iload hX dX11_sheet_119 7 rfl ?_
  obtain ⟨hi31, hP⟩ := gd_e hP
  refine V_iald hX tb_95 hi31 dX11_sheet_121 ?_
  refine V_iadd hX dX11_sheet_122 ?_
  refine V_topi (fun x32 ex32 => ?_)
  replace hP := lt_r ex32 hP
  refine V_istore (lv' := [(5, .int x32), (0, rf S 88), (1, .int x1), (2, .int x2), (3, .int x3), (4, .int x4), (6, .int x25), (7, .int x26)]) hX dX11_sheet_123 (by decide) rfl ?_
  refine V_iload hX dX11_sheet_125 6 rfl ?_
  refine V_iload hX dX11_sheet_127 5 rfl ?_
  refine V_iadd hX dX11_sheet_129 ?_
  refine V_topi (fun x33 ex33 => ?_)
  replace hP := lt_r ex33 hP
  refine V_istore (lv' := [(6, .int x33), (5, .int x32), (0, rf S 88), (1, .int x1), (2, .int x2), (3, .int x3), (4, .int x4), (7, .int x26)]) hX dX11_sheet_130 (by decide) rfl ?_
  obtain ⟨x34, ex34⟩ : ∃ y : Int32, y = x26 + 1 := ⟨_, rfl⟩
  replace hP := lt_r ex34 hP
  refine V_iinc (v := x34) (lv' := [(7, .int x34), (6, .int x33), (5, .int x32), (0, rf S 88), (1, .int x1), (2, .int x2), (3, .int x3), (4, .int x4)]) hX dX11_sheet_132 (j := 7) rfl (by decide) (by rw [ex34]; rfl) rfl ?_
  refine V_goto (tgt := 46) hX dX11_sheet_135 (by decide) ?_
  refine V_sub (lv' := [(0, rf S 88), (1, .int x1), (2, .int x2), (4, .int x4), (5, .int x32), (6, .int x33), (7, .int x34), (3, .int x3)]) [3, 4, 5, 7, 2, 1, 0, 6] rfl ?_
  exact hrc _ _ _ _  hP
def K_X11_sheet_97 (F : Nat) (x1 : Int32) (x2 : Int32) (x3 : Int32) (x4 : Int32) (k138 : Wd → Int32 → Option (Int32 × Wd)) (rc : Wd → Int32 → Int32 → Int32 → Option (Int32 × Wd)) (w : Wd) (x20 : Int32) (x21 : Int32) (x22 : Int32) (x23 : Int32) : Option (Int32 × Wd) := K_X11_sheet_112 F x1 x2 x3 x4 k138 rc w x20 x21 x22 0 x23
set_option maxRecDepth 100000 in
set_option maxHeartbeats 4000000 in
theorem sK_X11_sheet_97 {X : Cx} {S : Sx} {r : Int32 × Wd} {F : Nat} {x1 : Int32} {x2 : Int32} {x3 : Int32} {x4 : Int32} {k138 : Wd → Int32 → Option (Int32 × Wd)} {rc : Wd → Int32 → Int32 → Int32 → Option (Int32 × Wd)} {w : Wd} {x20 : Int32} {x21 : Int32} {x22 : Int32} {x23 : Int32} (hX : Ok X S cX11_sheet RX11 9 rm_X11_sheet) (hR : HRt X S cX11_sheet .int r)  (hk138 : ∀ (w : Wd) (x14 : Int32) , k138 w x14 = some r → V X S w 138 [(1, .int x1), (5, .int x14)] []) (hrc : ∀ (w : Wd) (x11 : Int32) (x12 : Int32) (x13 : Int32) , rc w x11 x12 x13 = some r → V X S w 46 [(0, rf S 88), (1, .int x1), (2, .int x2), (4, .int x4), (5, .int x11), (6, .int x12), (7, .int x13), (3, .int x3)] [])  (hP : K_X11_sheet_97 F x1 x2 x3 x4 k138 rc w x20 x21 x22 x23 = some r) : V X S w 97 [(0, rf S 88), (1, .int x1), (2, .int x2), (3, .int x3), (4, .int x4), (5, .int x20), (6, .int x21), (7, .int x22)] [.int x23, rf S 95] := by
  unfold K_X11_sheet_97 at hP
  refine V_iconst (v := 0) hX dX11_sheet_97 (by decide) ?_
  refine V_goto (tgt := 112) hX dX11_sheet_98 (by decide) ?_
  exact sK_X11_sheet_112 hX hR  hk138 hrc  hP
def L_X11_sheet_46 (F : Nat) (x1 : Int32) (x2 : Int32) (x3 : Int32) (x4 : Int32) (k138 : Wd → Int32 → Option (Int32 × Wd)) : Nat → Wd → Int32 → Int32 → Int32 → Option (Int32 × Wd)
  | 0, _, _, _, _ => none
  | n + 1, w, x11, x12, x13 => (if (gI w 88 3) ≤ x13 then k138 w x11 else lt (if x1 = 0 then i2bI x12 else if x1 = 1 then i2sI x12 else x12 : Int32) (fun x18 => (if x1 = 3 then K_X11_sheet_97 F x1 x2 x3 x4 k138 ((L_X11_sheet_46 F x1 x2 x3 x4 k138 n)) w x11 x12 x13 x13 else (if x13 < x2 then K_X11_sheet_112 F x1 x2 x3 x4 k138 ((L_X11_sheet_46 F x1 x2 x3 x4 k138 n)) w x11 x12 x13 (maxI 0 (minI 99 x18)) x13 else K_X11_sheet_97 F x1 x2 x3 x4 k138 ((L_X11_sheet_46 F x1 x2 x3 x4 k138 n)) w x11 x12 x13 x13))))
set_option maxRecDepth 100000 in
set_option maxHeartbeats 4000000 in
theorem sL_X11_sheet_46 {X : Cx} {S : Sx} {r : Int32 × Wd} {F : Nat} {x1 : Int32} {x2 : Int32} {x3 : Int32} {x4 : Int32} {k138 : Wd → Int32 → Option (Int32 × Wd)} (hX : Ok X S cX11_sheet RX11 9 rm_X11_sheet) (hR : HRt X S cX11_sheet .int r)  (hk138 : ∀ (w : Wd) (x14 : Int32) , k138 w x14 = some r → V X S w 138 [(1, .int x1), (5, .int x14)] []) : ∀ (n : Nat) (w : Wd) (x11 : Int32) (x12 : Int32) (x13 : Int32) , L_X11_sheet_46 F x1 x2 x3 x4 k138 n w x11 x12 x13 = some r → V X S w 46 [(0, rf S 88), (1, .int x1), (2, .int x2), (4, .int x4), (5, .int x11), (6, .int x12), (7, .int x13), (3, .int x3)] [] := by
  intro n
  induction n with
  | zero =>
    intro w x11 x12 x13  hP
    exact nn hP
  | succ n ih =>
    intro w x11 x12 x13  hP
    rw [L_X11_sheet_46] at hP
    refine V_iload hX dX11_sheet_46 6 rfl ?_
    refine V_aload_n hX dX11_sheet_48 0 rfl ?_
    refine V_getI hX fk_X11_113 tb_88 (fun _ _ _ => rfl) dX11_sheet_49 ?_
    refine V_icmp_ge (tgt := 138) hX dX11_sheet_52 (by decide) (fun hc15 => ?_) (fun hc15 => ?_)
    · replace hP := ite_t hc15 hP
      refine V_sub (lv' := [(1, .int x1), (5, .int x11)]) [1, 4] rfl ?_
      exact hk138 _ _  hP
    · replace hP := ite_f hc15 hP
      refine V_iload_n hX dX11_sheet_55 1 rfl ?_
      have k36 : V X S w 78 [(0, rf S 88), (1, .int x1), (2, .int x2), (4, .int x4), (5, .int x11), (6, .int x12), (7, .int x13), (3, .int x3)] [.int (if x1 = 0 then i2bI x12 else if x1 = 1 then i2sI x12 else x12)] := by
        refine V_topi (fun x18 ex18 => ?_)
        replace hP := lt_r ex18 hP
        refine V_istore (lv' := [(8, .int x18), (0, rf S 88), (1, .int x1), (2, .int x2), (4, .int x4), (5, .int x11), (6, .int x12), (7, .int x13), (3, .int x3)]) hX dX11_sheet_78 (by decide) rfl ?_
        refine V_aload_n hX dX11_sheet_80 1 rfl ?_
        refine V_getF (j := 95) hX fk_X11_29 tb_88 (fun _ _ _ => rfl) dX11_sheet_81 ?_
        refine V_iload hX dX11_sheet_84 7 rfl ?_
        refine V_iload_n hX dX11_sheet_86 2 rfl ?_
        refine V_iconst (v := 3) hX dX11_sheet_87 (by decide) ?_
        refine V_icmp_eq (tgt := 97) hX dX11_sheet_88 (by decide) (fun hc19 => ?_) (fun hc19 => ?_)
        · replace hP := ite_t hc19 hP
          refine V_sub (lv' := [(0, rf S 88), (1, .int x1), (2, .int x2), (3, .int x3), (4, .int x4), (5, .int x11), (6, .int x12), (7, .int x13)]) [1, 2, 3, 8, 4, 5, 6, 7] rfl ?_
          exact sK_X11_sheet_97 hX hR  hk138 ih  hP
        · replace hP := ite_f hc19 hP
          refine V_iload hX dX11_sheet_91 7 rfl ?_
          refine V_iload_n hX dX11_sheet_93 3 rfl ?_
          refine V_icmp_lt (tgt := 101) hX dX11_sheet_94 (by decide) (fun hc35 => ?_) (fun hc35 => ?_)
          · replace hP := ite_t hc35 hP
            refine V_iconst (v := 0) hX dX11_sheet_101 (by decide) ?_
            refine V_bipush (v := 99) hX dX11_sheet_102 (by decide) ?_
            refine V_iload hX dX11_sheet_104 0 rfl ?_
            refine V_min hX mk_X11_129 ⟨Nat.le_of_ble_eq_true rfl, Nat.le_of_ble_eq_true rfl⟩ dX11_sheet_106 ?_
            refine V_max hX mk_X11_280 ⟨Nat.le_of_ble_eq_true rfl, Nat.le_of_ble_eq_true rfl⟩ dX11_sheet_109 ?_
            refine V_sub (lv' := [(0, rf S 88), (1, .int x1), (2, .int x2), (3, .int x3), (4, .int x4), (5, .int x11), (6, .int x12), (7, .int x13)]) [1, 2, 3, 8, 4, 5, 6, 7] rfl ?_
            exact sK_X11_sheet_112 hX hR  hk138 ih  hP
          · replace hP := ite_f hc35 hP
            refine V_sub (lv' := [(0, rf S 88), (1, .int x1), (2, .int x2), (3, .int x3), (4, .int x4), (5, .int x11), (6, .int x12), (7, .int x13)]) [1, 2, 3, 8, 4, 5, 6, 7] rfl ?_
            exact sK_X11_sheet_97 hX hR  hk138 ih  hP
      refine V_if_ne (tgt := 65) hX dX11_sheet_56 (by decide) (fun hc17 => ?_) (fun hc17 => ?_)
      · refine V_iload_n hX dX11_sheet_65 1 rfl ?_
        refine V_iconst (v := 1) hX dX11_sheet_66 (by decide) ?_
        refine V_icmp_ne (tgt := 76) hX dX11_sheet_67 (by decide) (fun hc16 => ?_) (fun hc16 => ?_)
        · refine V_iload hX dX11_sheet_76 5 rfl ?_
          refine V_selF (c := x1 = 1) (a := i2sI x12) hc16 ?_
          refine V_selF (c := x1 = 0) (a := i2bI x12) hc17 ?_
          exact k36
        · refine V_iload hX dX11_sheet_70 5 rfl ?_
          refine V_i2s hX dX11_sheet_72 ?_
          refine V_goto (tgt := 78) hX dX11_sheet_73 (by decide) ?_
          refine V_selT (c := x1 = 1) (b := x12) hc16 ?_
          refine V_selF (c := x1 = 0) (a := i2bI x12) hc17 ?_
          exact k36
      · refine V_iload hX dX11_sheet_59 5 rfl ?_
        refine V_i2b hX dX11_sheet_61 ?_
        refine V_goto (tgt := 78) hX dX11_sheet_62 (by decide) ?_
        refine V_selT (c := x1 = 0) (b := if x1 = 1 then i2sI x12 else x12) hc17 ?_
        exact k36
def K_X11_sheet_37 (F : Nat) (x1 : Int32) (x2 : Int32) (x3 : Int32) (x4 : Int32)  (w : Wd)  : Option (Int32 × Wd) := L_X11_sheet_46 F x1 x2 x3 x4 (fun w x14 => lt (if x1 = 3 then (-3) else x14 : Int32) (fun x38 => some (x38, w))) F w 0 x3 0
set_option maxRecDepth 100000 in
set_option maxHeartbeats 4000000 in
theorem sK_X11_sheet_37 {X : Cx} {S : Sx} {r : Int32 × Wd} {F : Nat} {x1 : Int32} {x2 : Int32} {x3 : Int32} {x4 : Int32}  {w : Wd}  (hX : Ok X S cX11_sheet RX11 9 rm_X11_sheet) (hR : HRt X S cX11_sheet .int r)    (hP : K_X11_sheet_37 F x1 x2 x3 x4  w  = some r) : V X S w 37 [(0, rf S 88), (1, .int x1), (2, .int x2), (3, .int x3), (4, .int x4)] [] := by
  unfold K_X11_sheet_37 at hP
  refine V_iconst (v := 0) hX dX11_sheet_37 (by decide) ?_
  refine V_istore (lv' := [(5, .int 0), (0, rf S 88), (1, .int x1), (2, .int x2), (3, .int x3), (4, .int x4)]) hX dX11_sheet_38 (by decide) rfl ?_
  refine V_iload_n hX dX11_sheet_40 4 rfl ?_
  refine V_istore (lv' := [(6, .int x3), (5, .int 0), (0, rf S 88), (1, .int x1), (2, .int x2), (3, .int x3), (4, .int x4)]) hX dX11_sheet_41 (by decide) rfl ?_
  refine V_iconst (v := 0) hX dX11_sheet_43 (by decide) ?_
  refine V_istore (lv' := [(7, .int 0), (6, .int x3), (5, .int 0), (0, rf S 88), (1, .int x1), (2, .int x2), (3, .int x3), (4, .int x4)]) hX dX11_sheet_44 (by decide) rfl ?_
  refine V_sub (lv' := [(0, rf S 88), (1, .int x1), (2, .int x2), (4, .int x4), (5, .int 0), (6, .int x3), (7, .int 0), (3, .int x3)]) [3, 4, 5, 7, 2, 1, 0, 6] rfl ?_
  have k40 : ∀ (w : Wd) (x14 : Int32) , (lt (if x1 = 3 then (-3) else x14 : Int32) (fun x38 => some (x38, w))) = some r → V X S w 138 [(1, .int x1), (5, .int x14)] [] := by
    intro w x14  hP
    refine V_iload_n hX dX11_sheet_138 0 rfl ?_
    refine V_iconst (v := 3) hX dX11_sheet_139 (by decide) ?_
    have k39 : V X S w 150 [(1, .int x1), (5, .int x14)] [.int (if x1 = 3 then (-3) else x14)] := by
      refine V_topi (fun x38 ex38 => ?_)
      replace hP := lt_r ex38 hP
      exact hR _ _ _ _ (Option.some.inj hP) rfl dX11_sheet_150
    refine V_icmp_ne (tgt := 148) hX dX11_sheet_140 (by decide) (fun hc37 => ?_) (fun hc37 => ?_)
    · refine V_iload hX dX11_sheet_148 1 rfl ?_
      refine V_selF (c := x1 = 3) (a := (-3)) hc37 ?_
      exact k39
    · refine V_bipush (v := (-3)) hX dX11_sheet_143 (by decide) ?_
      refine V_goto (tgt := 150) hX dX11_sheet_145 (by decide) ?_
      refine V_selT (c := x1 = 3) (b := x14) hc37 ?_
      exact k39
  exact sL_X11_sheet_46 hX hR  k40 F _ _ _ _  hP
def P_X11_sheet (F : Nat) (w : Wd) (x1 : Int32) (x2 : Int32) (x3 : Int32) (x4 : Int32) : Option (Int32 × Wd) := lt (sI w 88 0 0) (fun w5 => bnd (P_X11_in F w5 (Int32.toInt64 x1) 0 3) (fun x7 w6 => (if x7 = 0 then some ((-1), w6) else (if x2 ≤ 8 then (if x1 = 3 then K_X11_sheet_37 F x1 x2 x3 x4  w6  else (if (0 : Int32) ≤ x2 then K_X11_sheet_37 F x1 x2 x3 x4  w6  else some ((-2), w6))) else some ((-1), w6)))))
set_option maxRecDepth 100000 in
set_option maxHeartbeats 4000000 in
theorem s_X11_sheet {X : Cx} {S : Sx} {r : Int32 × Wd} {F : Nat} {w : Wd} {x1 : Int32} {x2 : Int32} {x3 : Int32} {x4 : Int32}  (hX : Ok X S cX11_sheet RX11 9 rm_X11_sheet) (hR : HRt X S cX11_sheet .int r) (hP : P_X11_sheet F w x1 x2 x3 x4 = some r) : V X S w 0 [(0, rf S 88), (1, .int x1), (2, .int x2), (3, .int x3), (4, .int x4)] [] := by
  unfold P_X11_sheet at hP
  refine V_aload_n hX dX11_sheet_0 0 rfl ?_
  refine V_iconst (v := 0) hX dX11_sheet_1 (by decide) ?_
  refine V_putI hX fw_X11_102 tb_88 (fun _ _ _ => ⟨Nat.le_of_ble_eq_true rfl, rfl⟩) dX11_sheet_2 (fun w5 ew5 => ?_)
  replace hP := lt_r ew5 hP
  refine V_iload_n hX dX11_sheet_5 1 rfl ?_
  refine V_i2l hX dX11_sheet_6 ?_
  refine V_lconst (v := 0) hX dX11_sheet_7 rfl ?_
  refine V_ldc2 (v := 3) hX dX11_sheet_8 cn_X11_278 ?_
  obtain ⟨x7, w6, hcw6, hP⟩ := bnd_e hP
  refine V_callSi (As := [.long (Int32.toInt64 x1), .long 0, .long 3]) (rest := []) hX mk_X11_116 nk_X11_in (fun l => c_X11_in l S  hcw6) ⟨rfl, rfl, Nat.le_of_ble_eq_true rfl, Nat.le_of_ble_eq_true rfl⟩ rfl rfl (Nat.le_of_ble_eq_true rfl) dX11_sheet_11 ?_
  refine V_if_eq (tgt := 23) hX dX11_sheet_14 (by decide) (fun hc8 => ?_) (fun hc8 => ?_)
  · replace hP := ite_t hc8 hP
    refine V_iconst (v := (-1)) hX dX11_sheet_23 (by decide) ?_
    exact hR _ _ _ _ (Option.some.inj hP) rfl dX11_sheet_24
  · replace hP := ite_f hc8 hP
    refine V_iload_n hX dX11_sheet_17 2 rfl ?_
    refine V_bipush (v := 8) hX dX11_sheet_18 (by decide) ?_
    refine V_icmp_le (tgt := 25) hX dX11_sheet_20 (by decide) (fun hc9 => ?_) (fun hc9 => ?_)
    · replace hP := ite_t hc9 hP
      refine V_iload_n hX dX11_sheet_25 1 rfl ?_
      refine V_iconst (v := 3) hX dX11_sheet_26 (by decide) ?_
      refine V_icmp_eq (tgt := 37) hX dX11_sheet_27 (by decide) (fun hc10 => ?_) (fun hc10 => ?_)
      · replace hP := ite_t hc10 hP
        exact sK_X11_sheet_37 hX hR    hP
      · replace hP := ite_f hc10 hP
        refine V_iload_n hX dX11_sheet_30 2 rfl ?_
        refine V_if_ge (tgt := 37) hX dX11_sheet_31 (by decide) (fun hc41 => ?_) (fun hc41 => ?_)
        · replace hP := ite_t hc41 hP
          exact sK_X11_sheet_37 hX hR    hP
        · replace hP := ite_f hc41 hP
          refine V_bipush (v := (-2)) hX dX11_sheet_34 (by decide) ?_
          exact hR _ _ _ _ (Option.some.inj hP) rfl dX11_sheet_36
    · replace hP := ite_f hc9 hP
      refine V_iconst (v := (-1)) hX dX11_sheet_23 (by decide) ?_
      exact hR _ _ _ _ (Option.some.inj hP) rfl dX11_sheet_24
theorem c_X11_sheet (l : Launch) (S : Sx) {r : Int32 × Wd} {F : Nat} {w : Wd} {x1 : Int32} {x2 : Int32} {x3 : Int32} {x4 : Int32}  (h : P_X11_sheet F w x1 x2 x3 x4 = some r) : Met l yX11_sheet (wsg yX11_sheet cX11_sheet 9 (some .int)) rm_X11_sheet (PC S w [rf S 88, .int x1, .int x2, .int x3, .int x4]) (QCi S r) 0 0 (Aw S) :=
  met_i (by decide) rfl (Nat.le_of_ble_eq_true rfl) ⟨rfl, rfl⟩ (fun X hX hR => s_X11_sheet  hX hR h)

-- MustNotStopModel.putsBy()V
abbrev rm_X11_putsBy : Room := { frames := 1, cells := 0, slots := 0, locals := 64 }
theorem nk_X11_putsBy : MNk yX11_putsBy RX11 0 := ⟨rfl, by decide, by decide, by decide +kernel⟩
def L_X11_putsBy_2 (F : Nat)  (k34 : Wd → Option (Wd)) : Nat → Wd → Int32 → Option (Wd)
  | 0, _, _ => none
  | n + 1, w, x1 => (if (16 : Int32) ≤ x1 then k34 w  else gd (inB x1 16) (gd (inB ((16 * (gI w 88 26)) + x1) 256) (lt (sI w 103 ((16 * (gI w 88 26)) + x1).toNatClampNeg (gI w 95 x1.toNatClampNeg)) (fun w5 => lt (x1 + 1 : Int32) (fun x6 => L_X11_putsBy_2 F  k34 n w5 x6)))))
set_option maxRecDepth 100000 in
set_option maxHeartbeats 4000000 in
theorem sL_X11_putsBy_2 {X : Cx} {S : Sx} {r : Wd} {F : Nat}  {k34 : Wd → Option (Wd)} (hX : Ok X S cX11_putsBy RX11 2 rm_X11_putsBy) (hR : HRv X S cX11_putsBy r)  (hk34 : ∀ (w : Wd), k34 w = some r → V X S w 34 [] []) : ∀ (n : Nat) (w : Wd) (x1 : Int32) , L_X11_putsBy_2 F  k34 n w x1 = some r → V X S w 2 [(0, rf S 88), (1, .int x1)] [] := by
  intro n
  induction n with
  | zero =>
    intro w x1  hP
    exact nn hP
  | succ n ih =>
    intro w x1  hP
    rw [L_X11_putsBy_2] at hP
    refine V_iload_n hX dX11_putsBy_2 1 rfl ?_
    refine V_bipush (v := 16) hX dX11_putsBy_3 (by decide) ?_
    refine V_icmp_ge (tgt := 34) hX dX11_putsBy_5 (by decide) (fun hc2 => ?_) (fun hc2 => ?_)
    · replace hP := ite_t hc2 hP
      refine V_sub (lv' := []) [] rfl ?_
      exact hk34 _   hP
    · replace hP := ite_f hc2 hP
      refine V_aload_n hX dX11_putsBy_8 0 rfl ?_
      refine V_getF (j := 103) hX fk_X11_53 tb_88 (fun _ _ _ => rfl) dX11_putsBy_9 ?_
      refine V_bipush (v := 16) hX dX11_putsBy_12 (by decide) ?_
      refine V_aload_n hX dX11_putsBy_14 0 rfl ?_
      refine V_getI hX fk_X11_190 tb_88 (fun _ _ _ => rfl) dX11_putsBy_15 ?_
      refine V_imul hX dX11_putsBy_18 ?_
      refine V_iload_n hX dX11_putsBy_19 1 rfl ?_
      refine V_iadd hX dX11_putsBy_20 ?_
      refine V_aload_n hX dX11_putsBy_21 0 rfl ?_
      refine V_getF (j := 95) hX fk_X11_29 tb_88 (fun _ _ _ => rfl) dX11_putsBy_22 ?_
      refine V_iload_n hX dX11_putsBy_25 1 rfl ?_
      obtain ⟨hi3, hP⟩ := gd_e hP
      refine V_iald hX tb_95 hi3 dX11_putsBy_26 ?_
      obtain ⟨hi4, hP⟩ := gd_e hP
      refine V_iast hX tb_103 hi4 dX11_putsBy_27 (fun w5 ew5 => ?_)
      replace hP := lt_r ew5 hP
      obtain ⟨x6, ex6⟩ : ∃ y : Int32, y = x1 + 1 := ⟨_, rfl⟩
      replace hP := lt_r ex6 hP
      refine V_iinc (v := x6) (lv' := [(1, .int x6), (0, rf S 88)]) hX dX11_putsBy_28 (j := 1) rfl (by decide) (by rw [ex6]; rfl) rfl ?_
      refine V_goto (tgt := 2) hX dX11_putsBy_31 (by decide) ?_
      refine V_sub (lv' := [(0, rf S 88), (1, .int x6)]) [1, 0] rfl ?_
      exact ih _ _  hP
def P_X11_putsBy (F : Nat) (w : Wd)  : Option (Wd) := L_X11_putsBy_2 F  (fun w  => some w) F w 0
set_option maxRecDepth 100000 in
set_option maxHeartbeats 4000000 in
theorem s_X11_putsBy {X : Cx} {S : Sx} {r : Wd} {F : Nat} {w : Wd}   (hX : Ok X S cX11_putsBy RX11 2 rm_X11_putsBy) (hR : HRv X S cX11_putsBy r) (hP : P_X11_putsBy F w  = some r) : V X S w 0 [(0, rf S 88)] [] := by
  unfold P_X11_putsBy at hP
  refine V_iconst (v := 0) hX dX11_putsBy_0 (by decide) ?_
  refine V_istore_n (lv' := [(1, .int 0), (0, rf S 88)]) hX dX11_putsBy_1 (by decide) rfl ?_
  refine V_sub (lv' := [(0, rf S 88), (1, .int 0)]) [1, 0] rfl ?_
  have k7 : ∀ (w : Wd)  , (some w) = some r → V X S w 34 [] [] := by
    intro w   hP
    exact hR _ _ _ (Option.some.inj hP) dX11_putsBy_34
  exact sL_X11_putsBy_2 hX hR  k7 F _ _  hP
theorem c_X11_putsBy (l : Launch) (S : Sx) {r : Wd} {F : Nat} {w : Wd}   (h : P_X11_putsBy F w  = some r) : Met l yX11_putsBy (wsg yX11_putsBy cX11_putsBy 2 none) rm_X11_putsBy (PC S w [rf S 88]) (QCv S r) 0 0 (Aw S) :=
  met_v (by decide) rfl (Nat.le_of_ble_eq_true rfl) ⟨rfl, rfl⟩ (fun X hX hR => s_X11_putsBy  hX hR h)

-- MustNotStopModel.adds(I)I
abbrev rm_X11_adds : Room := { frames := 1, cells := 0, slots := 0, locals := 64 }
theorem nk_X11_adds : MNk yX11_adds RX11 1 := ⟨rfl, by decide, by decide, by decide +kernel⟩
def L_X11_adds_21 (F : Nat) (x1 : Int32) (k49 : Wd → Option (Int32 × Wd)) : Nat → Wd → Int32 → Option (Int32 × Wd)
  | 0, _, _ => none
  | n + 1, w, x4 => (if (240 : Int32) ≤ x4 then k49 w  else gd (inB (x4 + 16) 256) (gd (inB x4 256) (lt (sI w 103 x4.toNatClampNeg (gI w 103 (x4 + 16).toNatClampNeg)) (fun w8 => lt (x4 + 1 : Int32) (fun x9 => L_X11_adds_21 F x1 k49 n w8 x9)))))
set_option maxRecDepth 100000 in
set_option maxHeartbeats 4000000 in
theorem sL_X11_adds_21 {X : Cx} {S : Sx} {r : Int32 × Wd} {F : Nat} {x1 : Int32} {k49 : Wd → Option (Int32 × Wd)} (hX : Ok X S cX11_adds RX11 3 rm_X11_adds) (hR : HRt X S cX11_adds .int r)  (hk49 : ∀ (w : Wd), k49 w = some r → V X S w 49 [(0, rf S 88), (1, .int x1)] []) : ∀ (n : Nat) (w : Wd) (x4 : Int32) , L_X11_adds_21 F x1 k49 n w x4 = some r → V X S w 21 [(0, rf S 88), (1, .int x1), (2, .int x4)] [] := by
  intro n
  induction n with
  | zero =>
    intro w x4  hP
    exact nn hP
  | succ n ih =>
    intro w x4  hP
    rw [L_X11_adds_21] at hP
    refine V_iload_n hX dX11_adds_21 2 rfl ?_
    refine V_sipush (v := 240) hX dX11_adds_22 (by decide) ?_
    refine V_icmp_ge (tgt := 49) hX dX11_adds_25 (by decide) (fun hc5 => ?_) (fun hc5 => ?_)
    · replace hP := ite_t hc5 hP
      refine V_sub (lv' := [(0, rf S 88), (1, .int x1)]) [0, 1] rfl ?_
      exact hk49 _   hP
    · replace hP := ite_f hc5 hP
      refine V_aload_n hX dX11_adds_28 0 rfl ?_
      refine V_getF (j := 103) hX fk_X11_53 tb_88 (fun _ _ _ => rfl) dX11_adds_29 ?_
      refine V_iload_n hX dX11_adds_32 2 rfl ?_
      refine V_aload_n hX dX11_adds_33 0 rfl ?_
      refine V_getF (j := 103) hX fk_X11_53 tb_88 (fun _ _ _ => rfl) dX11_adds_34 ?_
      refine V_iload_n hX dX11_adds_37 2 rfl ?_
      refine V_bipush (v := 16) hX dX11_adds_38 (by decide) ?_
      refine V_iadd hX dX11_adds_40 ?_
      obtain ⟨hi6, hP⟩ := gd_e hP
      refine V_iald hX tb_103 hi6 dX11_adds_41 ?_
      obtain ⟨hi7, hP⟩ := gd_e hP
      refine V_iast hX tb_103 hi7 dX11_adds_42 (fun w8 ew8 => ?_)
      replace hP := lt_r ew8 hP
      obtain ⟨x9, ex9⟩ : ∃ y : Int32, y = x4 + 1 := ⟨_, rfl⟩
      replace hP := lt_r ex9 hP
      refine V_iinc (v := x9) (lv' := [(2, .int x9), (0, rf S 88), (1, .int x1)]) hX dX11_adds_43 (j := 2) rfl (by decide) (by rw [ex9]; rfl) rfl ?_
      refine V_goto (tgt := 21) hX dX11_adds_46 (by decide) ?_
      refine V_sub (lv' := [(0, rf S 88), (1, .int x1), (2, .int x9)]) [1, 2, 0] rfl ?_
      exact ih _ _  hP
def P_X11_adds (F : Nat) (w : Wd) (x1 : Int32) : Option (Int32 × Wd) := lt (sI w 88 26 ((gI w 88 26) + 1)) (fun w2 => (if (gI w2 88 26) ≤ 15 then some (x1, w2) else L_X11_adds_21 F x1 (fun w  => lt (sI w 88 26 ((gI w 88 26) - 1)) (fun w10 => some (x1, w10))) F w2 0))
set_option maxRecDepth 100000 in
set_option maxHeartbeats 4000000 in
theorem s_X11_adds {X : Cx} {S : Sx} {r : Int32 × Wd} {F : Nat} {w : Wd} {x1 : Int32}  (hX : Ok X S cX11_adds RX11 3 rm_X11_adds) (hR : HRt X S cX11_adds .int r) (hP : P_X11_adds F w x1 = some r) : V X S w 0 [(0, rf S 88), (1, .int x1)] [] := by
  unfold P_X11_adds at hP
  refine V_aload_n hX dX11_adds_0 0 rfl ?_
  refine V_dup hX dX11_adds_1 rfl ?_
  refine V_getI hX fk_X11_190 tb_88 (fun _ _ _ => rfl) dX11_adds_2 ?_
  refine V_iconst (v := 1) hX dX11_adds_5 (by decide) ?_
  refine V_iadd hX dX11_adds_6 ?_
  refine V_putI hX fw_X11_190 tb_88 (fun _ _ _ => ⟨Nat.le_of_ble_eq_true rfl, rfl⟩) dX11_adds_7 (fun w2 ew2 => ?_)
  replace hP := lt_r ew2 hP
  refine V_aload_n hX dX11_adds_10 0 rfl ?_
  refine V_getI hX fk_X11_190 tb_88 (fun _ _ _ => rfl) dX11_adds_11 ?_
  refine V_bipush (v := 15) hX dX11_adds_14 (by decide) ?_
  refine V_icmp_le (tgt := 59) hX dX11_adds_16 (by decide) (fun hc3 => ?_) (fun hc3 => ?_)
  · replace hP := ite_t hc3 hP
    refine V_iload_n hX dX11_adds_59 1 rfl ?_
    exact hR _ _ _ _ (Option.some.inj hP) rfl dX11_adds_60
  · replace hP := ite_f hc3 hP
    refine V_iconst (v := 0) hX dX11_adds_19 (by decide) ?_
    refine V_istore_n (lv' := [(2, .int 0), (0, rf S 88), (1, .int x1)]) hX dX11_adds_20 (by decide) rfl ?_
    refine V_sub (lv' := [(0, rf S 88), (1, .int x1), (2, .int 0)]) [1, 2, 0] rfl ?_
    have k11 : ∀ (w : Wd)  , (lt (sI w 88 26 ((gI w 88 26) - 1)) (fun w10 => some (x1, w10))) = some r → V X S w 49 [(0, rf S 88), (1, .int x1)] [] := by
      intro w   hP
      refine V_aload_n hX dX11_adds_49 0 rfl ?_
      refine V_dup hX dX11_adds_50 rfl ?_
      refine V_getI hX fk_X11_190 tb_88 (fun _ _ _ => rfl) dX11_adds_51 ?_
      refine V_iconst (v := 1) hX dX11_adds_54 (by decide) ?_
      refine V_isub hX dX11_adds_55 ?_
      refine V_putI hX fw_X11_190 tb_88 (fun _ _ _ => ⟨Nat.le_of_ble_eq_true rfl, rfl⟩) dX11_adds_56 (fun w10 ew10 => ?_)
      replace hP := lt_r ew10 hP
      refine V_iload_n hX dX11_adds_59 1 rfl ?_
      exact hR _ _ _ _ (Option.some.inj hP) rfl dX11_adds_60
    exact sL_X11_adds_21 hX hR  k11 F _ _  hP
theorem c_X11_adds (l : Launch) (S : Sx) {r : Int32 × Wd} {F : Nat} {w : Wd} {x1 : Int32}  (h : P_X11_adds F w x1 = some r) : Met l yX11_adds (wsg yX11_adds cX11_adds 3 (some .int)) rm_X11_adds (PC S w [rf S 88, .int x1]) (QCi S r) 0 0 (Aw S) :=
  met_i (by decide) rfl (Nat.le_of_ble_eq_true rfl) ⟨rfl, rfl⟩ (fun X hX hR => s_X11_adds  hX hR h)

-- MustNotStopModel.counts(I)I
abbrev rm_X11_counts : Room := { frames := 2, cells := 0, slots := 0, locals := 86 }
theorem nk_X11_counts : MNk yX11_counts RX11 1 := ⟨rfl, by decide, by decide, by decide +kernel⟩
def P_X11_counts (F : Nat) (w : Wd) (x1 : Int32) : Option (Int32 × Wd) := (if (0 : Int32) ≤ x1 then bnd (P_X11_adds F w x1) (fun x4 w3 => some (x4, w3)) else some (x1, w))
set_option maxRecDepth 100000 in
set_option maxHeartbeats 4000000 in
theorem s_X11_counts {X : Cx} {S : Sx} {r : Int32 × Wd} {F : Nat} {w : Wd} {x1 : Int32}  (hX : Ok X S cX11_counts RX11 2 rm_X11_counts) (hR : HRt X S cX11_counts .int r) (hP : P_X11_counts F w x1 = some r) : V X S w 0 [(0, rf S 88), (1, .int x1)] [] := by
  unfold P_X11_counts at hP
  refine V_iload_n hX dX11_counts_0 1 rfl ?_
  refine V_if_ge (tgt := 8) hX dX11_counts_1 (by decide) (fun hc2 => ?_) (fun hc2 => ?_)
  · replace hP := ite_t hc2 hP
    refine V_aload_n hX dX11_counts_8 0 rfl ?_
    refine V_iload_n hX dX11_counts_9 1 rfl ?_
    obtain ⟨x4, w3, hcw3, hP⟩ := bnd_e hP
    refine V_callVi (As := [.int x1]) (rest := []) hX mk_X11_283 nk_X11_adds (fun l => c_X11_adds l S  hcw3) tb_88 rfl ⟨rfl, rfl, Nat.le_of_ble_eq_true rfl, Nat.le_of_ble_eq_true rfl⟩ rfl rfl (Nat.le_of_ble_eq_true rfl) dX11_counts_10 ?_
    exact hR _ _ _ _ (Option.some.inj hP) rfl dX11_counts_13
  · replace hP := ite_f hc2 hP
    refine V_iload_n hX dX11_counts_4 1 rfl ?_
    refine V_goto (tgt := 13) hX dX11_counts_5 (by decide) ?_
    exact hR _ _ _ _ (Option.some.inj hP) rfl dX11_counts_13
theorem c_X11_counts (l : Launch) (S : Sx) {r : Int32 × Wd} {F : Nat} {w : Wd} {x1 : Int32}  (h : P_X11_counts F w x1 = some r) : Met l yX11_counts (wsg yX11_counts cX11_counts 2 (some .int)) rm_X11_counts (PC S w [rf S 88, .int x1]) (QCi S r) 0 0 (Aw S) :=
  met_i (by decide) rfl (Nat.le_of_ble_eq_true rfl) ⟨rfl, rfl⟩ (fun X hX hR => s_X11_counts  hX hR h)

-- MustNotStopModel.undo()I
abbrev rm_X11_undo : Room := { frames := 1, cells := 0, slots := 0, locals := 64 }
theorem nk_X11_undo : MNk yX11_undo RX11 0 := ⟨rfl, by decide, by decide, by decide +kernel⟩
def L_X11_undo_26 (F : Nat)  (k58 : Wd → Option (Int32 × Wd)) : Nat → Wd → Int32 → Option (Int32 × Wd)
  | 0, _, _ => none
  | n + 1, w, x4 => (if (16 : Int32) ≤ x4 then k58 w  else gd (inB ((16 * (gI w 88 26)) + x4) 256) (gd (inB x4 16) (lt (sI w 95 x4.toNatClampNeg (gI w 103 ((16 * (gI w 88 26)) + x4).toNatClampNeg)) (fun w8 => lt (x4 + 1 : Int32) (fun x9 => L_X11_undo_26 F  k58 n w8 x9)))))
set_option maxRecDepth 100000 in
set_option maxHeartbeats 4000000 in
theorem sL_X11_undo_26 {X : Cx} {S : Sx} {r : Int32 × Wd} {F : Nat}  {k58 : Wd → Option (Int32 × Wd)} (hX : Ok X S cX11_undo RX11 2 rm_X11_undo) (hR : HRt X S cX11_undo .int r)  (hk58 : ∀ (w : Wd), k58 w = some r → V X S w 58 [(0, rf S 88)] []) : ∀ (n : Nat) (w : Wd) (x4 : Int32) , L_X11_undo_26 F  k58 n w x4 = some r → V X S w 26 [(0, rf S 88), (1, .int x4)] [] := by
  intro n
  induction n with
  | zero =>
    intro w x4  hP
    exact nn hP
  | succ n ih =>
    intro w x4  hP
    rw [L_X11_undo_26] at hP
    refine V_iload_n hX dX11_undo_26 1 rfl ?_
    refine V_bipush (v := 16) hX dX11_undo_27 (by decide) ?_
    refine V_icmp_ge (tgt := 58) hX dX11_undo_29 (by decide) (fun hc5 => ?_) (fun hc5 => ?_)
    · replace hP := ite_t hc5 hP
      refine V_sub (lv' := [(0, rf S 88)]) [0] rfl ?_
      exact hk58 _   hP
    · replace hP := ite_f hc5 hP
      refine V_aload_n hX dX11_undo_32 0 rfl ?_
      refine V_getF (j := 95) hX fk_X11_29 tb_88 (fun _ _ _ => rfl) dX11_undo_33 ?_
      refine V_iload_n hX dX11_undo_36 1 rfl ?_
      refine V_aload_n hX dX11_undo_37 0 rfl ?_
      refine V_getF (j := 103) hX fk_X11_53 tb_88 (fun _ _ _ => rfl) dX11_undo_38 ?_
      refine V_bipush (v := 16) hX dX11_undo_41 (by decide) ?_
      refine V_aload_n hX dX11_undo_43 0 rfl ?_
      refine V_getI hX fk_X11_190 tb_88 (fun _ _ _ => rfl) dX11_undo_44 ?_
      refine V_imul hX dX11_undo_47 ?_
      refine V_iload_n hX dX11_undo_48 1 rfl ?_
      refine V_iadd hX dX11_undo_49 ?_
      obtain ⟨hi6, hP⟩ := gd_e hP
      refine V_iald hX tb_103 hi6 dX11_undo_50 ?_
      obtain ⟨hi7, hP⟩ := gd_e hP
      refine V_iast hX tb_95 hi7 dX11_undo_51 (fun w8 ew8 => ?_)
      replace hP := lt_r ew8 hP
      obtain ⟨x9, ex9⟩ : ∃ y : Int32, y = x4 + 1 := ⟨_, rfl⟩
      replace hP := lt_r ex9 hP
      refine V_iinc (v := x9) (lv' := [(1, .int x9), (0, rf S 88)]) hX dX11_undo_52 (j := 1) rfl (by decide) (by rw [ex9]; rfl) rfl ?_
      refine V_goto (tgt := 26) hX dX11_undo_55 (by decide) ?_
      refine V_sub (lv' := [(0, rf S 88), (1, .int x9)]) [1, 0] rfl ?_
      exact ih _ _  hP
def P_X11_undo (F : Nat) (w : Wd)  : Option (Int32 × Wd) := lt (sI w 88 0 0) (fun w1 => (if (gI w1 88 26) = 0 then some ((-1), w1) else lt (sI w1 88 26 ((gI w1 88 26) - 1)) (fun w3 => L_X11_undo_26 F  (fun w  => some (gI w 88 26, w)) F w3 0)))
set_option maxRecDepth 100000 in
set_option maxHeartbeats 4000000 in
theorem s_X11_undo {X : Cx} {S : Sx} {r : Int32 × Wd} {F : Nat} {w : Wd}   (hX : Ok X S cX11_undo RX11 2 rm_X11_undo) (hR : HRt X S cX11_undo .int r) (hP : P_X11_undo F w  = some r) : V X S w 0 [(0, rf S 88)] [] := by
  unfold P_X11_undo at hP
  refine V_aload_n hX dX11_undo_0 0 rfl ?_
  refine V_iconst (v := 0) hX dX11_undo_1 (by decide) ?_
  refine V_putI hX fw_X11_102 tb_88 (fun _ _ _ => ⟨Nat.le_of_ble_eq_true rfl, rfl⟩) dX11_undo_2 (fun w1 ew1 => ?_)
  replace hP := lt_r ew1 hP
  refine V_aload_n hX dX11_undo_5 0 rfl ?_
  refine V_getI hX fk_X11_190 tb_88 (fun _ _ _ => rfl) dX11_undo_6 ?_
  refine V_if_ne (tgt := 14) hX dX11_undo_9 (by decide) (fun hc2 => ?_) (fun hc2 => ?_)
  · replace hP := ite_f hc2 hP
    refine V_aload_n hX dX11_undo_14 0 rfl ?_
    refine V_dup hX dX11_undo_15 rfl ?_
    refine V_getI hX fk_X11_190 tb_88 (fun _ _ _ => rfl) dX11_undo_16 ?_
    refine V_iconst (v := 1) hX dX11_undo_19 (by decide) ?_
    refine V_isub hX dX11_undo_20 ?_
    refine V_putI hX fw_X11_190 tb_88 (fun _ _ _ => ⟨Nat.le_of_ble_eq_true rfl, rfl⟩) dX11_undo_21 (fun w3 ew3 => ?_)
    replace hP := lt_r ew3 hP
    refine V_iconst (v := 0) hX dX11_undo_24 (by decide) ?_
    refine V_istore_n (lv' := [(1, .int 0), (0, rf S 88)]) hX dX11_undo_25 (by decide) rfl ?_
    refine V_sub (lv' := [(0, rf S 88), (1, .int 0)]) [1, 0] rfl ?_
    have k10 : ∀ (w : Wd)  , (some (gI w 88 26, w)) = some r → V X S w 58 [(0, rf S 88)] [] := by
      intro w   hP
      refine V_aload_n hX dX11_undo_58 0 rfl ?_
      refine V_getI hX fk_X11_190 tb_88 (fun _ _ _ => rfl) dX11_undo_59 ?_
      exact hR _ _ _ _ (Option.some.inj hP) rfl dX11_undo_62
    exact sL_X11_undo_26 hX hR  k10 F _ _  hP
  · replace hP := ite_t hc2 hP
    refine V_iconst (v := (-1)) hX dX11_undo_12 (by decide) ?_
    exact hR _ _ _ _ (Option.some.inj hP) rfl dX11_undo_13
theorem c_X11_undo (l : Launch) (S : Sx) {r : Int32 × Wd} {F : Nat} {w : Wd}   (h : P_X11_undo F w  = some r) : Met l yX11_undo (wsg yX11_undo cX11_undo 2 (some .int)) rm_X11_undo (PC S w [rf S 88]) (QCi S r) 0 0 (Aw S) :=
  met_i (by decide) rfl (Nat.le_of_ble_eq_true rfl) ⟨rfl, rfl⟩ (fun X hX hR => s_X11_undo  hX hR h)

-- MustNotStopModel.doubtsGo([I)V
abbrev rm_X11_doubtsGo : Room := { frames := 2, cells := 0, slots := 0, locals := 84 }
theorem nk_X11_doubtsGo : MNk yX11_doubtsGo RX11 1 := ⟨rfl, by decide, by decide, by decide +kernel⟩
def K_X11_doubtsGo_65 (F : Nat) (a1 : Nat) (x4 : Int32) (k92 : Wd → Option (Wd)) (rc : Wd → Int32 → Option (Wd)) (w : Wd) (x13 : Int32) (x14 : Int32) : Option (Wd) := gd (inB 15 (alen a1)) (lt (if x14 = 0 then 0 else ishlI 1 x13 : Int32) (fun x17 => gd (inB 15 (alen a1)) (lt (sI w a1 15 ((gI w a1 15) ||| x17)) (fun w19 => lt (x13 + 1 : Int32) (fun x20 => rc w19 x20)))))
set_option maxRecDepth 100000 in
set_option maxHeartbeats 4000000 in
theorem sK_X11_doubtsGo_65 {X : Cx} {S : Sx} {r : Wd} {F : Nat} {a1 : Nat} {x4 : Int32} {k92 : Wd → Option (Wd)} {rc : Wd → Int32 → Option (Wd)} {w : Wd} {x13 : Int32} {x14 : Int32} (hX : Ok X S cX11_doubtsGo RX11 6 rm_X11_doubtsGo) (hR : HRv X S cX11_doubtsGo r) (ha1 : isIA a1 = true) (hk92 : ∀ (w : Wd), k92 w = some r → V X S w 92 [] []) (hrc : ∀ (w : Wd) (x5 : Int32) , rc w x5 = some r → V X S w 7 [(0, rf S 88), (1, rf S a1), (2, .int x4), (3, .int x5)] [])  (hP : K_X11_doubtsGo_65 F a1 x4 k92 rc w x13 x14 = some r) : V X S w 65 [(0, rf S 88), (1, rf S a1), (2, .int x4), (3, .int x13)] [.int x14] := by
  unfold K_X11_doubtsGo_65 at hP
  refine V_istore (lv' := [(5, .int x14), (0, rf S 88), (1, rf S a1), (2, .int x4), (3, .int x13)]) hX dX11_doubtsGo_65 (by decide) rfl ?_
  refine V_aload_n hX dX11_doubtsGo_67 2 rfl ?_
  refine V_bipush (v := 15) hX dX11_doubtsGo_68 (by decide) ?_
  refine V_dup2 hX dX11_doubtsGo_70 rfl rfl ?_
  obtain ⟨hi15, hP⟩ := gd_e hP
  refine V_iald hX (tb_IA ha1) hi15 dX11_doubtsGo_71 ?_
  refine V_iload hX dX11_doubtsGo_72 0 rfl ?_
  have k21 : V X S w 84 [(5, .int x14), (0, rf S 88), (1, rf S a1), (2, .int x4), (3, .int x13)] [.int (if x14 = 0 then 0 else ishlI 1 x13), .int (gI w a1 15), .int 15, rf S a1] := by
    refine V_topi (fun x17 ex17 => ?_)
    replace hP := lt_r ex17 hP
    refine V_ior hX dX11_doubtsGo_84 ?_
    obtain ⟨hi18, hP⟩ := gd_e hP
    refine V_iast hX (tb_IA ha1) hi18 dX11_doubtsGo_85 (fun w19 ew19 => ?_)
    replace hP := lt_r ew19 hP
    obtain ⟨x20, ex20⟩ : ∃ y : Int32, y = x13 + 1 := ⟨_, rfl⟩
    replace hP := lt_r ex20 hP
    refine V_iinc (v := x20) (lv' := [(3, .int x20), (5, .int x14), (0, rf S 88), (1, rf S a1), (2, .int x4)]) hX dX11_doubtsGo_86 (j := 4) rfl (by decide) (by rw [ex20]; rfl) rfl ?_
    refine V_goto (tgt := 7) hX dX11_doubtsGo_89 (by decide) ?_
    refine V_sub (lv' := [(0, rf S 88), (1, rf S a1), (2, .int x4), (3, .int x20)]) [2, 3, 4, 0] rfl ?_
    exact hrc _ _  hP
  refine V_if_eq (tgt := 83) hX dX11_doubtsGo_74 (by decide) (fun hc16 => ?_) (fun hc16 => ?_)
  · refine V_iconst (v := 0) hX dX11_doubtsGo_83 (by decide) ?_
    refine V_selT (c := x14 = 0) (b := ishlI 1 x13) hc16 ?_
    exact k21
  · refine V_iconst (v := 1) hX dX11_doubtsGo_77 (by decide) ?_
    refine V_iload_n hX dX11_doubtsGo_78 4 rfl ?_
    refine V_ishl hX dX11_doubtsGo_79 ?_
    refine V_goto (tgt := 84) hX dX11_doubtsGo_80 (by decide) ?_
    refine V_selF (c := x14 = 0) (a := 0) hc16 ?_
    exact k21
def K_X11_doubtsGo_60 (F : Nat) (a1 : Nat) (x4 : Int32) (k92 : Wd → Option (Wd)) (rc : Wd → Int32 → Option (Wd)) (w : Wd) (x12 : Int32) : Option (Wd) := K_X11_doubtsGo_65 F a1 x4 k92 rc w x12 1
set_option maxRecDepth 100000 in
set_option maxHeartbeats 4000000 in
theorem sK_X11_doubtsGo_60 {X : Cx} {S : Sx} {r : Wd} {F : Nat} {a1 : Nat} {x4 : Int32} {k92 : Wd → Option (Wd)} {rc : Wd → Int32 → Option (Wd)} {w : Wd} {x12 : Int32} (hX : Ok X S cX11_doubtsGo RX11 6 rm_X11_doubtsGo) (hR : HRv X S cX11_doubtsGo r) (ha1 : isIA a1 = true) (hk92 : ∀ (w : Wd), k92 w = some r → V X S w 92 [] []) (hrc : ∀ (w : Wd) (x5 : Int32) , rc w x5 = some r → V X S w 7 [(0, rf S 88), (1, rf S a1), (2, .int x4), (3, .int x5)] [])  (hP : K_X11_doubtsGo_60 F a1 x4 k92 rc w x12 = some r) : V X S w 60 [(0, rf S 88), (1, rf S a1), (2, .int x4), (3, .int x12)] [] := by
  unfold K_X11_doubtsGo_60 at hP
  refine V_iconst (v := 1) hX dX11_doubtsGo_60 (by decide) ?_
  refine V_goto (tgt := 65) hX dX11_doubtsGo_61 (by decide) ?_
  exact sK_X11_doubtsGo_65 hX hR ha1 hk92 hrc  hP
def K_X11_doubtsGo_64 (F : Nat) (a1 : Nat) (x4 : Int32) (k92 : Wd → Option (Wd)) (rc : Wd → Int32 → Option (Wd)) (w : Wd) (x24 : Int32) : Option (Wd) := K_X11_doubtsGo_65 F a1 x4 k92 rc w x24 0
set_option maxRecDepth 100000 in
set_option maxHeartbeats 4000000 in
theorem sK_X11_doubtsGo_64 {X : Cx} {S : Sx} {r : Wd} {F : Nat} {a1 : Nat} {x4 : Int32} {k92 : Wd → Option (Wd)} {rc : Wd → Int32 → Option (Wd)} {w : Wd} {x24 : Int32} (hX : Ok X S cX11_doubtsGo RX11 6 rm_X11_doubtsGo) (hR : HRv X S cX11_doubtsGo r) (ha1 : isIA a1 = true) (hk92 : ∀ (w : Wd), k92 w = some r → V X S w 92 [] []) (hrc : ∀ (w : Wd) (x5 : Int32) , rc w x5 = some r → V X S w 7 [(0, rf S 88), (1, rf S a1), (2, .int x4), (3, .int x5)] [])  (hP : K_X11_doubtsGo_64 F a1 x4 k92 rc w x24 = some r) : V X S w 64 [(0, rf S 88), (1, rf S a1), (2, .int x4), (3, .int x24)] [] := by
  unfold K_X11_doubtsGo_64 at hP
  refine V_iconst (v := 0) hX dX11_doubtsGo_64 (by decide) ?_
  exact sK_X11_doubtsGo_65 hX hR ha1 hk92 hrc  hP
def L_X11_doubtsGo_7 (F : Nat) (a1 : Nat) (x4 : Int32) (k92 : Wd → Option (Wd)) : Nat → Wd → Int32 → Option (Wd)
  | 0, _, _ => none
  | n + 1, w, x5 => (if (gI w 88 4) ≤ x5 then k92 w  else bnd (P_J6_bitCount_0f7a4 F w (x4 &&& ((ishlI 1 x5) ^^^ ((-1))))) (fun x8 w7 => gd (inB 12 (alen a1)) (gd (inB x5 8) ((if (gI w7 92 x5.toNatClampNeg) ≤ (gI w7 a1 12) then K_X11_doubtsGo_60 F a1 x4 k92 ((L_X11_doubtsGo_7 F a1 x4 k92 n)) w7 x5 else gd (inB x5 8) ((if (gI w7 93 x5.toNatClampNeg) ≤ 0 then K_X11_doubtsGo_64 F a1 x4 k92 ((L_X11_doubtsGo_7 F a1 x4 k92 n)) w7 x5 else gd (inB x5 8) (lt (if x8 < (gI w7 93 x5.toNatClampNeg) then 0 else 1 : Int32) (fun x27 => gd (inB 15 (alen a1)) (lt (if x27 = 0 then 0 else ishlI 1 x5 : Int32) (fun x30 => gd (inB 15 (alen a1)) (lt (sI w7 a1 15 ((gI w7 a1 15) ||| x30)) (fun w32 => lt (x5 + 1 : Int32) (fun x33 => L_X11_doubtsGo_7 F a1 x4 k92 n w32 x33))))))))))))))
set_option maxRecDepth 100000 in
set_option maxHeartbeats 4000000 in
theorem sL_X11_doubtsGo_7 {X : Cx} {S : Sx} {r : Wd} {F : Nat} {a1 : Nat} {x4 : Int32} {k92 : Wd → Option (Wd)} (hX : Ok X S cX11_doubtsGo RX11 6 rm_X11_doubtsGo) (hR : HRv X S cX11_doubtsGo r) (ha1 : isIA a1 = true) (hk92 : ∀ (w : Wd), k92 w = some r → V X S w 92 [] []) : ∀ (n : Nat) (w : Wd) (x5 : Int32) , L_X11_doubtsGo_7 F a1 x4 k92 n w x5 = some r → V X S w 7 [(0, rf S 88), (1, rf S a1), (2, .int x4), (3, .int x5)] [] := by
  intro n
  induction n with
  | zero =>
    intro w x5  hP
    exact nn hP
  | succ n ih =>
    intro w x5  hP
    rw [L_X11_doubtsGo_7] at hP
    refine V_iload_n hX dX11_doubtsGo_7 3 rfl ?_
    refine V_aload_n hX dX11_doubtsGo_8 0 rfl ?_
    refine V_getI hX fk_X11_202 tb_88 (fun _ _ _ => rfl) dX11_doubtsGo_9 ?_
    refine V_icmp_ge (tgt := 92) hX dX11_doubtsGo_12 (by decide) (fun hc6 => ?_) (fun hc6 => ?_)
    · replace hP := ite_t hc6 hP
      refine V_sub (lv' := []) [] rfl ?_
      exact hk92 _   hP
    · replace hP := ite_f hc6 hP
      refine V_iload_n hX dX11_doubtsGo_15 2 rfl ?_
      refine V_iconst (v := 1) hX dX11_doubtsGo_16 (by decide) ?_
      refine V_iload_n hX dX11_doubtsGo_17 3 rfl ?_
      refine V_ishl hX dX11_doubtsGo_18 ?_
      refine V_iconst (v := (-1)) hX dX11_doubtsGo_19 (by decide) ?_
      refine V_ixor hX dX11_doubtsGo_20 ?_
      refine V_iand hX dX11_doubtsGo_21 ?_
      obtain ⟨x8, w7, hcw7, hP⟩ := bnd_e hP
      refine V_callSi (As := [.int (x4 &&& ((ishlI 1 x5) ^^^ ((-1))))]) (rest := []) hX mk_X11_248 nk_J6_bitCount_0f7a4 (fun l => c_J6_bitCount_0f7a4 l S  hcw7) ⟨rfl, rfl, Nat.le_of_ble_eq_true rfl, Nat.le_of_ble_eq_true rfl⟩ rfl rfl (Nat.le_of_ble_eq_true rfl) dX11_doubtsGo_22 ?_
      refine V_istore (lv' := [(4, .int x8), (0, rf S 88), (1, rf S a1), (2, .int x4), (3, .int x5)]) hX dX11_doubtsGo_25 (by decide) rfl ?_
      refine V_aload_n hX dX11_doubtsGo_27 2 rfl ?_
      refine V_bipush (v := 12) hX dX11_doubtsGo_28 (by decide) ?_
      obtain ⟨hi9, hP⟩ := gd_e hP
      refine V_iald hX (tb_IA ha1) hi9 dX11_doubtsGo_30 ?_
      refine V_aload_n hX dX11_doubtsGo_31 1 rfl ?_
      refine V_getF (j := 92) hX fk_X11_20 tb_88 (fun _ _ _ => rfl) dX11_doubtsGo_32 ?_
      refine V_iload_n hX dX11_doubtsGo_35 4 rfl ?_
      obtain ⟨hi10, hP⟩ := gd_e hP
      refine V_iald hX tb_92 hi10 dX11_doubtsGo_36 ?_
      refine V_icmp_ge (tgt := 60) hX dX11_doubtsGo_37 (by decide) (fun hc11 => ?_) (fun hc11 => ?_)
      · replace hP := ite_t hc11 hP
        refine V_sub (lv' := [(0, rf S 88), (1, rf S a1), (2, .int x4), (3, .int x5)]) [1, 2, 3, 4] rfl ?_
        exact sK_X11_doubtsGo_60 hX hR ha1 hk92 ih  hP
      · replace hP := ite_f hc11 hP
        refine V_aload_n hX dX11_doubtsGo_40 1 rfl ?_
        refine V_getF (j := 93) hX fk_X11_23 tb_88 (fun _ _ _ => rfl) dX11_doubtsGo_41 ?_
        refine V_iload_n hX dX11_doubtsGo_44 4 rfl ?_
        obtain ⟨hi22, hP⟩ := gd_e hP
        refine V_iald hX tb_93 hi22 dX11_doubtsGo_45 ?_
        refine V_if_le (tgt := 64) hX dX11_doubtsGo_46 (by decide) (fun hc23 => ?_) (fun hc23 => ?_)
        · replace hP := ite_t hc23 hP
          refine V_sub (lv' := [(0, rf S 88), (1, rf S a1), (2, .int x4), (3, .int x5)]) [1, 2, 3, 4] rfl ?_
          exact sK_X11_doubtsGo_64 hX hR ha1 hk92 ih  hP
        · replace hP := ite_f hc23 hP
          refine V_iload hX dX11_doubtsGo_49 0 rfl ?_
          refine V_aload_n hX dX11_doubtsGo_51 1 rfl ?_
          refine V_getF (j := 93) hX fk_X11_23 tb_88 (fun _ _ _ => rfl) dX11_doubtsGo_52 ?_
          refine V_iload_n hX dX11_doubtsGo_55 4 rfl ?_
          obtain ⟨hi25, hP⟩ := gd_e hP
          refine V_iald hX tb_93 hi25 dX11_doubtsGo_56 ?_
          have k35 : V X S w7 65 [(4, .int x8), (0, rf S 88), (1, rf S a1), (2, .int x4), (3, .int x5)] [.int (if x8 < (gI w7 93 x5.toNatClampNeg) then 0 else 1)] := by
            refine V_topi (fun x27 ex27 => ?_)
            replace hP := lt_r ex27 hP
            refine V_istore (lv' := [(5, .int x27), (4, .int x8), (0, rf S 88), (1, rf S a1), (2, .int x4), (3, .int x5)]) hX dX11_doubtsGo_65 (by decide) rfl ?_
            refine V_aload_n hX dX11_doubtsGo_67 3 rfl ?_
            refine V_bipush (v := 15) hX dX11_doubtsGo_68 (by decide) ?_
            refine V_dup2 hX dX11_doubtsGo_70 rfl rfl ?_
            obtain ⟨hi28, hP⟩ := gd_e hP
            refine V_iald hX (tb_IA ha1) hi28 dX11_doubtsGo_71 ?_
            refine V_iload hX dX11_doubtsGo_72 0 rfl ?_
            have k34 : V X S w7 84 [(5, .int x27), (4, .int x8), (0, rf S 88), (1, rf S a1), (2, .int x4), (3, .int x5)] [.int (if x27 = 0 then 0 else ishlI 1 x5), .int (gI w7 a1 15), .int 15, rf S a1] := by
              refine V_topi (fun x30 ex30 => ?_)
              replace hP := lt_r ex30 hP
              refine V_ior hX dX11_doubtsGo_84 ?_
              obtain ⟨hi31, hP⟩ := gd_e hP
              refine V_iast hX (tb_IA ha1) hi31 dX11_doubtsGo_85 (fun w32 ew32 => ?_)
              replace hP := lt_r ew32 hP
              obtain ⟨x33, ex33⟩ : ∃ y : Int32, y = x5 + 1 := ⟨_, rfl⟩
              replace hP := lt_r ex33 hP
              refine V_iinc (v := x33) (lv' := [(3, .int x33), (5, .int x27), (4, .int x8), (0, rf S 88), (1, rf S a1), (2, .int x4)]) hX dX11_doubtsGo_86 (j := 5) rfl (by decide) (by rw [ex33]; rfl) rfl ?_
              refine V_goto (tgt := 7) hX dX11_doubtsGo_89 (by decide) ?_
              refine V_sub (lv' := [(0, rf S 88), (1, rf S a1), (2, .int x4), (3, .int x33)]) [3, 4, 5, 0] rfl ?_
              exact ih _ _  hP
            refine V_if_eq (tgt := 83) hX dX11_doubtsGo_74 (by decide) (fun hc29 => ?_) (fun hc29 => ?_)
            · refine V_iconst (v := 0) hX dX11_doubtsGo_83 (by decide) ?_
              refine V_selT (c := x27 = 0) (b := ishlI 1 x5) hc29 ?_
              exact k34
            · refine V_iconst (v := 1) hX dX11_doubtsGo_77 (by decide) ?_
              refine V_iload_n hX dX11_doubtsGo_78 5 rfl ?_
              refine V_ishl hX dX11_doubtsGo_79 ?_
              refine V_goto (tgt := 84) hX dX11_doubtsGo_80 (by decide) ?_
              refine V_selF (c := x27 = 0) (a := 0) hc29 ?_
              exact k34
          refine V_icmp_lt (tgt := 64) hX dX11_doubtsGo_57 (by decide) (fun hc26 => ?_) (fun hc26 => ?_)
          · refine V_iconst (v := 0) hX dX11_doubtsGo_64 (by decide) ?_
            refine V_selT (c := x8 < (gI w7 93 x5.toNatClampNeg)) (b := 1) hc26 ?_
            exact k35
          · refine V_iconst (v := 1) hX dX11_doubtsGo_60 (by decide) ?_
            refine V_goto (tgt := 65) hX dX11_doubtsGo_61 (by decide) ?_
            refine V_selF (c := x8 < (gI w7 93 x5.toNatClampNeg)) (a := 0) hc26 ?_
            exact k35
def P_X11_doubtsGo (F : Nat) (w : Wd) (a1 : Nat) : Option (Wd) := gd (inB 15 (alen a1)) (lt (gI w a1 15 : Int32) (fun x3 => L_X11_doubtsGo_7 F a1 x3 (fun w  => some w) F w 0))
set_option maxRecDepth 100000 in
set_option maxHeartbeats 4000000 in
theorem s_X11_doubtsGo {X : Cx} {S : Sx} {r : Wd} {F : Nat} {w : Wd} {a1 : Nat} (ha1 : isIA a1 = true) (hX : Ok X S cX11_doubtsGo RX11 6 rm_X11_doubtsGo) (hR : HRv X S cX11_doubtsGo r) (hP : P_X11_doubtsGo F w a1 = some r) : V X S w 0 [(0, rf S 88), (1, rf S a1)] [] := by
  unfold P_X11_doubtsGo at hP
  refine V_aload_n hX dX11_doubtsGo_0 1 rfl ?_
  refine V_bipush (v := 15) hX dX11_doubtsGo_1 (by decide) ?_
  obtain ⟨hi2, hP⟩ := gd_e hP
  refine V_iald hX (tb_IA ha1) hi2 dX11_doubtsGo_3 ?_
  refine V_topi (fun x3 ex3 => ?_)
  replace hP := lt_r ex3 hP
  refine V_istore_n (lv' := [(2, .int x3), (0, rf S 88), (1, rf S a1)]) hX dX11_doubtsGo_4 (by decide) rfl ?_
  refine V_iconst (v := 0) hX dX11_doubtsGo_5 (by decide) ?_
  refine V_istore_n (lv' := [(3, .int 0), (2, .int x3), (0, rf S 88), (1, rf S a1)]) hX dX11_doubtsGo_6 (by decide) rfl ?_
  refine V_sub (lv' := [(0, rf S 88), (1, rf S a1), (2, .int x3), (3, .int 0)]) [2, 3, 1, 0] rfl ?_
  have k36 : ∀ (w : Wd)  , (some w) = some r → V X S w 92 [] [] := by
    intro w   hP
    exact hR _ _ _ (Option.some.inj hP) dX11_doubtsGo_92
  exact sL_X11_doubtsGo_7 hX hR ha1 k36 F _ _  hP
theorem c_X11_doubtsGo (l : Launch) (S : Sx) {r : Wd} {F : Nat} {w : Wd} {a1 : Nat} (ha1 : isIA a1 = true) (h : P_X11_doubtsGo F w a1 = some r) : Met l yX11_doubtsGo (wsg yX11_doubtsGo cX11_doubtsGo 6 none) rm_X11_doubtsGo (PC S w [rf S 88, rf S a1]) (QCv S r) 0 0 (Aw S) :=
  met_v (by decide) rfl (Nat.le_of_ble_eq_true rfl) ⟨rfl, rfl⟩ (fun X hX hR => s_X11_doubtsGo ha1 hX hR h)

-- MustNotStopModel.minuteGoes([I)Z
abbrev rm_X11_minuteGoes : Room := { frames := 6, cells := 0, slots := 0, locals := 174 }
theorem nk_X11_minuteGoes : MNk yX11_minuteGoes RX11 1 := ⟨rfl, by decide, by decide, by decide +kernel⟩
def K_X11_minuteGoes_152 (F : Nat) (a1 : Nat) (x21 : Int32) (k159 : Wd → Option (Int32 × Wd)) (rc : Wd → Int32 → Option (Int32 × Wd)) (w : Wd) (x29 : Int32) (x30 : Int32) (x31 : Int32) : Option (Int32 × Wd) := gd (inB x31 (alen a1)) (lt (sI w a1 x31.toNatClampNeg x30) (fun w33 => lt (x29 + 1 : Int32) (fun x34 => rc w33 x34)))
set_option maxRecDepth 100000 in
set_option maxHeartbeats 4000000 in
theorem sK_X11_minuteGoes_152 {X : Cx} {S : Sx} {r : Int32 × Wd} {F : Nat} {a1 : Nat} {x21 : Int32} {k159 : Wd → Option (Int32 × Wd)} {rc : Wd → Int32 → Option (Int32 × Wd)} {w : Wd} {x29 : Int32} {x30 : Int32} {x31 : Int32} (hX : Ok X S cX11_minuteGoes RX11 4 rm_X11_minuteGoes) (hR : HRt X S cX11_minuteGoes .boolean r) (ha1 : isIA a1 = true) (hk159 : ∀ (w : Wd), k159 w = some r → V X S w 159 [(0, rf S 88), (1, rf S a1), (2, .int x21)] []) (hrc : ∀ (w : Wd) (x22 : Int32) , rc w x22 = some r → V X S w 109 [(0, rf S 88), (1, rf S a1), (2, .int x21), (3, .int x22)] [])  (hP : K_X11_minuteGoes_152 F a1 x21 k159 rc w x29 x30 x31 = some r) : V X S w 152 [(0, rf S 88), (1, rf S a1), (2, .int x21), (3, .int x29)] [.int x30, .int x31, rf S a1] := by
  unfold K_X11_minuteGoes_152 at hP
  obtain ⟨hi32, hP⟩ := gd_e hP
  refine V_iast hX (tb_IA ha1) hi32 dX11_minuteGoes_152 (fun w33 ew33 => ?_)
  replace hP := lt_r ew33 hP
  obtain ⟨x34, ex34⟩ : ∃ y : Int32, y = x29 + 1 := ⟨_, rfl⟩
  replace hP := lt_r ex34 hP
  refine V_iinc (v := x34) (lv' := [(3, .int x34), (0, rf S 88), (1, rf S a1), (2, .int x21)]) hX dX11_minuteGoes_153 (j := 3) rfl (by decide) (by rw [ex34]; rfl) rfl ?_
  refine V_goto (tgt := 109) hX dX11_minuteGoes_156 (by decide) ?_
  refine V_sub (lv' := [(0, rf S 88), (1, rf S a1), (2, .int x21), (3, .int x34)]) [1, 2, 3, 0] rfl ?_
  exact hrc _ _  hP
def L_X11_minuteGoes_109 (F : Nat) (a1 : Nat) (x21 : Int32) (k159 : Wd → Option (Int32 × Wd)) : Nat → Wd → Int32 → Option (Int32 × Wd)
  | 0, _, _ => none
  | n + 1, w, x22 => (if (gI w 88 3) ≤ x22 then k159 w  else gd (inB 8 (alen a1)) (bnd (P_X11_has F w (gI w a1 8) x22) (fun x26 w25 => (if x26 = 0 then gd (inB x22 (alen a1)) (K_X11_minuteGoes_152 F a1 x21 k159 ((L_X11_minuteGoes_109 F a1 x21 k159 n)) w25 x22 (maxI 0 ((gI w25 a1 x22.toNatClampNeg) - 1)) x22) else gd (inB x22 (alen a1)) (K_X11_minuteGoes_152 F a1 x21 k159 ((L_X11_minuteGoes_109 F a1 x21 k159 n)) w25 x22 (minI 99 ((gI w25 a1 x22.toNatClampNeg) + 2)) x22)))))
set_option maxRecDepth 100000 in
set_option maxHeartbeats 4000000 in
theorem sL_X11_minuteGoes_109 {X : Cx} {S : Sx} {r : Int32 × Wd} {F : Nat} {a1 : Nat} {x21 : Int32} {k159 : Wd → Option (Int32 × Wd)} (hX : Ok X S cX11_minuteGoes RX11 4 rm_X11_minuteGoes) (hR : HRt X S cX11_minuteGoes .boolean r) (ha1 : isIA a1 = true) (hk159 : ∀ (w : Wd), k159 w = some r → V X S w 159 [(0, rf S 88), (1, rf S a1), (2, .int x21)] []) : ∀ (n : Nat) (w : Wd) (x22 : Int32) , L_X11_minuteGoes_109 F a1 x21 k159 n w x22 = some r → V X S w 109 [(0, rf S 88), (1, rf S a1), (2, .int x21), (3, .int x22)] [] := by
  intro n
  induction n with
  | zero =>
    intro w x22  hP
    exact nn hP
  | succ n ih =>
    intro w x22  hP
    rw [L_X11_minuteGoes_109] at hP
    refine V_iload_n hX dX11_minuteGoes_109 3 rfl ?_
    refine V_aload_n hX dX11_minuteGoes_110 0 rfl ?_
    refine V_getI hX fk_X11_113 tb_88 (fun _ _ _ => rfl) dX11_minuteGoes_111 ?_
    refine V_icmp_ge (tgt := 159) hX dX11_minuteGoes_114 (by decide) (fun hc23 => ?_) (fun hc23 => ?_)
    · replace hP := ite_t hc23 hP
      refine V_sub (lv' := [(0, rf S 88), (1, rf S a1), (2, .int x21)]) [0, 1, 2] rfl ?_
      exact hk159 _   hP
    · replace hP := ite_f hc23 hP
      refine V_aload_n hX dX11_minuteGoes_117 1 rfl ?_
      refine V_iload_n hX dX11_minuteGoes_118 3 rfl ?_
      refine V_aload_n hX dX11_minuteGoes_119 1 rfl ?_
      refine V_bipush (v := 8) hX dX11_minuteGoes_120 (by decide) ?_
      obtain ⟨hi24, hP⟩ := gd_e hP
      refine V_iald hX (tb_IA ha1) hi24 dX11_minuteGoes_122 ?_
      refine V_iload_n hX dX11_minuteGoes_123 3 rfl ?_
      obtain ⟨x26, w25, hcw25, hP⟩ := bnd_e hP
      refine V_callSi (As := [.int (gI w a1 8), .int x22]) (rest := [.int x22, rf S a1]) hX mk_X11_240 nk_X11_has (fun l => c_X11_has l S  hcw25) ⟨rfl, rfl, Nat.le_of_ble_eq_true rfl, Nat.le_of_ble_eq_true rfl⟩ rfl rfl (Nat.le_of_ble_eq_true rfl) dX11_minuteGoes_124 ?_
      refine V_if_eq (tgt := 143) hX dX11_minuteGoes_127 (by decide) (fun hc27 => ?_) (fun hc27 => ?_)
      · replace hP := ite_t hc27 hP
        refine V_iconst (v := 0) hX dX11_minuteGoes_143 (by decide) ?_
        refine V_aload_n hX dX11_minuteGoes_144 1 rfl ?_
        refine V_iload_n hX dX11_minuteGoes_145 3 rfl ?_
        obtain ⟨hi28, hP⟩ := gd_e hP
        refine V_iald hX (tb_IA ha1) hi28 dX11_minuteGoes_146 ?_
        refine V_iconst (v := 1) hX dX11_minuteGoes_147 (by decide) ?_
        refine V_isub hX dX11_minuteGoes_148 ?_
        refine V_max hX mk_X11_280 ⟨Nat.le_of_ble_eq_true rfl, Nat.le_of_ble_eq_true rfl⟩ dX11_minuteGoes_149 ?_
        exact sK_X11_minuteGoes_152 hX hR ha1 hk159 ih  hP
      · replace hP := ite_f hc27 hP
        refine V_bipush (v := 99) hX dX11_minuteGoes_130 (by decide) ?_
        refine V_aload_n hX dX11_minuteGoes_132 1 rfl ?_
        refine V_iload_n hX dX11_minuteGoes_133 3 rfl ?_
        obtain ⟨hi35, hP⟩ := gd_e hP
        refine V_iald hX (tb_IA ha1) hi35 dX11_minuteGoes_134 ?_
        refine V_iconst (v := 2) hX dX11_minuteGoes_135 (by decide) ?_
        refine V_iadd hX dX11_minuteGoes_136 ?_
        refine V_min hX mk_X11_129 ⟨Nat.le_of_ble_eq_true rfl, Nat.le_of_ble_eq_true rfl⟩ dX11_minuteGoes_137 ?_
        refine V_goto (tgt := 152) hX dX11_minuteGoes_140 (by decide) ?_
        exact sK_X11_minuteGoes_152 hX hR ha1 hk159 ih  hP
def K_X11_minuteGoes_107 (F : Nat) (a1 : Nat)  (w : Wd) (x20 : Int32) : Option (Int32 × Wd) := L_X11_minuteGoes_109 F a1 x20 (fun w  => gd (inB 14 (alen a1)) (gd (inB 8 (alen a1)) (bnd (P_X11_sumOf F w (gI w a1 8) 91) (fun x39 w38 => gd (inB 14 (alen a1)) (lt (sI w38 a1 14 ((gI w a1 14) + x39)) (fun w41 => gd (inB 10 (alen a1)) (gd (inB 10 (alen a1)) (lt (sI w41 a1 10 ((gI w41 a1 10) + 1)) (fun w44 => bnv (P_X11_doubtsGo F w44 a1) (fun w45 => gd (isZO x20) (some (x20, w45)))))))))))) F w 0
set_option maxRecDepth 100000 in
set_option maxHeartbeats 4000000 in
theorem sK_X11_minuteGoes_107 {X : Cx} {S : Sx} {r : Int32 × Wd} {F : Nat} {a1 : Nat}  {w : Wd} {x20 : Int32} (hX : Ok X S cX11_minuteGoes RX11 4 rm_X11_minuteGoes) (hR : HRt X S cX11_minuteGoes .boolean r) (ha1 : isIA a1 = true)   (hP : K_X11_minuteGoes_107 F a1  w x20 = some r) : V X S w 107 [(0, rf S 88), (1, rf S a1), (2, .int x20)] [] := by
  unfold K_X11_minuteGoes_107 at hP
  refine V_iconst (v := 0) hX dX11_minuteGoes_107 (by decide) ?_
  refine V_istore_n (lv' := [(3, .int 0), (0, rf S 88), (1, rf S a1), (2, .int x20)]) hX dX11_minuteGoes_108 (by decide) rfl ?_
  refine V_sub (lv' := [(0, rf S 88), (1, rf S a1), (2, .int x20), (3, .int 0)]) [1, 2, 3, 0] rfl ?_
  have k47 : ∀ (w : Wd)  , (gd (inB 14 (alen a1)) (gd (inB 8 (alen a1)) (bnd (P_X11_sumOf F w (gI w a1 8) 91) (fun x39 w38 => gd (inB 14 (alen a1)) (lt (sI w38 a1 14 ((gI w a1 14) + x39)) (fun w41 => gd (inB 10 (alen a1)) (gd (inB 10 (alen a1)) (lt (sI w41 a1 10 ((gI w41 a1 10) + 1)) (fun w44 => bnv (P_X11_doubtsGo F w44 a1) (fun w45 => gd (isZO x20) (some (x20, w45)))))))))))) = some r → V X S w 159 [(0, rf S 88), (1, rf S a1), (2, .int x20)] [] := by
    intro w   hP
    refine V_aload_n hX dX11_minuteGoes_159 1 rfl ?_
    refine V_bipush (v := 14) hX dX11_minuteGoes_160 (by decide) ?_
    refine V_dup2 hX dX11_minuteGoes_162 rfl rfl ?_
    obtain ⟨hi36, hP⟩ := gd_e hP
    refine V_iald hX (tb_IA ha1) hi36 dX11_minuteGoes_163 ?_
    refine V_aload_n hX dX11_minuteGoes_164 0 rfl ?_
    refine V_aload_n hX dX11_minuteGoes_165 1 rfl ?_
    refine V_bipush (v := 8) hX dX11_minuteGoes_166 (by decide) ?_
    obtain ⟨hi37, hP⟩ := gd_e hP
    refine V_iald hX (tb_IA ha1) hi37 dX11_minuteGoes_168 ?_
    refine V_aload_n hX dX11_minuteGoes_169 0 rfl ?_
    refine V_getF (j := 91) hX fk_X11_17 tb_88 (fun _ _ _ => rfl) dX11_minuteGoes_170 ?_
    obtain ⟨x39, w38, hcw38, hP⟩ := bnd_e hP
    refine V_callVi (As := [.int (gI w a1 8), rf S 91]) (rest := [.int (gI w a1 14), .int 14, rf S a1]) hX mk_X11_244 nk_X11_sumOf (fun l => c_X11_sumOf l S (by decide) hcw38) tb_88 rfl ⟨rfl, rfl, Nat.le_of_ble_eq_true rfl, Nat.le_of_ble_eq_true rfl⟩ rfl rfl (Nat.le_of_ble_eq_true rfl) dX11_minuteGoes_173 ?_
    refine V_iadd hX dX11_minuteGoes_176 ?_
    obtain ⟨hi40, hP⟩ := gd_e hP
    refine V_iast hX (tb_IA ha1) hi40 dX11_minuteGoes_177 (fun w41 ew41 => ?_)
    replace hP := lt_r ew41 hP
    refine V_aload_n hX dX11_minuteGoes_178 1 rfl ?_
    refine V_bipush (v := 10) hX dX11_minuteGoes_179 (by decide) ?_
    refine V_dup2 hX dX11_minuteGoes_181 rfl rfl ?_
    obtain ⟨hi42, hP⟩ := gd_e hP
    refine V_iald hX (tb_IA ha1) hi42 dX11_minuteGoes_182 ?_
    refine V_iconst (v := 1) hX dX11_minuteGoes_183 (by decide) ?_
    refine V_iadd hX dX11_minuteGoes_184 ?_
    obtain ⟨hi43, hP⟩ := gd_e hP
    refine V_iast hX (tb_IA ha1) hi43 dX11_minuteGoes_185 (fun w44 ew44 => ?_)
    replace hP := lt_r ew44 hP
    refine V_aload_n hX dX11_minuteGoes_186 0 rfl ?_
    refine V_aload_n hX dX11_minuteGoes_187 1 rfl ?_
    obtain ⟨w45, hcw45, hP⟩ := bnv_e hP
    refine V_callVv (As := [rf S a1]) (rest := []) hX mk_X11_286 nk_X11_doubtsGo (fun l => c_X11_doubtsGo l S ha1 hcw45) tb_88 rfl ⟨rfl, rfl, Nat.le_of_ble_eq_true rfl, Nat.le_of_ble_eq_true rfl⟩ rfl rfl (Nat.le_of_ble_eq_true rfl) dX11_minuteGoes_188 ?_
    refine V_iload_n hX dX11_minuteGoes_191 2 rfl ?_
    obtain ⟨hz46, hP⟩ := gd_e hP
    exact hR _ _ _ _ (Option.some.inj hP) (nar_z hz46) dX11_minuteGoes_192
  exact sL_X11_minuteGoes_109 hX hR ha1 k47 F _ _  hP
def P_X11_minuteGoes (F : Nat) (w : Wd) (a1 : Nat) : Option (Int32 × Wd) := gd (inB 8 (alen a1)) (bnd (P_X11_loudOf F w a1 (gI w a1 8)) (fun x4 w3 => lt (if x4 ≤ 0 then 0 else 1 : Int32) (fun x6 => (if x6 = 0 then gd (inB 12 (alen a1)) (gd (inB 12 (alen a1)) (lt (sI w3 a1 12 ((gI w3 a1 12) + 1)) (fun w10 => gd (inB 13 (alen a1)) (gd (inB 12 (alen a1)) (gd (inB 2 3) (lt (if (gI w10 a1 12) = ((gI w10 94 2) + 1) then 1 else 0 : Int32) (fun x15 => bnd (P_X11_flag F w10 x15) (fun x17 w16 => gd (inB 13 (alen a1)) (lt (sI w16 a1 13 ((gI w10 a1 13) + x17)) (fun w19 => K_X11_minuteGoes_107 F a1  w19 x6)))))))))) else gd (inB 11 (alen a1)) (gd (inB 11 (alen a1)) (lt (sI w3 a1 11 ((gI w3 a1 11) + 1)) (fun w51 => gd (inB 12 (alen a1)) (lt (sI w51 a1 12 0) (fun w53 => gd (inB 9 (alen a1)) (gd (inB 11 (alen a1)) (lt (if (iremI (gI w53 a1 11) 10) = 0 then 1 else 0 : Int32) (fun x58 => bnd (P_X11_flag F w53 x58) (fun x60 w59 => gd (inB 9 (alen a1)) (lt (sI w59 a1 9 (maxI 0 ((gI w53 a1 9) - x60))) (fun w62 => K_X11_minuteGoes_107 F a1  w62 x6)))))))))))))))
set_option maxRecDepth 100000 in
set_option maxHeartbeats 4000000 in
theorem s_X11_minuteGoes {X : Cx} {S : Sx} {r : Int32 × Wd} {F : Nat} {w : Wd} {a1 : Nat} (ha1 : isIA a1 = true) (hX : Ok X S cX11_minuteGoes RX11 4 rm_X11_minuteGoes) (hR : HRt X S cX11_minuteGoes .boolean r) (hP : P_X11_minuteGoes F w a1 = some r) : V X S w 0 [(0, rf S 88), (1, rf S a1)] [] := by
  unfold P_X11_minuteGoes at hP
  refine V_aload_n hX dX11_minuteGoes_0 0 rfl ?_
  refine V_aload_n hX dX11_minuteGoes_1 1 rfl ?_
  refine V_aload_n hX dX11_minuteGoes_2 1 rfl ?_
  refine V_bipush (v := 8) hX dX11_minuteGoes_3 (by decide) ?_
  obtain ⟨hi2, hP⟩ := gd_e hP
  refine V_iald hX (tb_IA ha1) hi2 dX11_minuteGoes_5 ?_
  obtain ⟨x4, w3, hcw3, hP⟩ := bnd_e hP
  refine V_callVi (As := [rf S a1, .int (gI w a1 8)]) (rest := []) hX mk_X11_268 nk_X11_loudOf (fun l => c_X11_loudOf l S ha1 hcw3) tb_88 rfl ⟨rfl, rfl, Nat.le_of_ble_eq_true rfl, Nat.le_of_ble_eq_true rfl⟩ rfl rfl (Nat.le_of_ble_eq_true rfl) dX11_minuteGoes_6 ?_
  have k64 : V X S w3 17 [(0, rf S 88), (1, rf S a1)] [.int (if x4 ≤ 0 then 0 else 1)] := by
    refine V_topi (fun x6 ex6 => ?_)
    replace hP := lt_r ex6 hP
    refine V_istore_n (lv' := [(2, .int x6), (0, rf S 88), (1, rf S a1)]) hX dX11_minuteGoes_17 (by decide) rfl ?_
    refine V_iload_n hX dX11_minuteGoes_18 0 rfl ?_
    refine V_if_eq (tgt := 69) hX dX11_minuteGoes_19 (by decide) (fun hc7 => ?_) (fun hc7 => ?_)
    · replace hP := ite_t hc7 hP
      refine V_aload_n hX dX11_minuteGoes_69 2 rfl ?_
      refine V_bipush (v := 12) hX dX11_minuteGoes_70 (by decide) ?_
      refine V_dup2 hX dX11_minuteGoes_72 rfl rfl ?_
      obtain ⟨hi8, hP⟩ := gd_e hP
      refine V_iald hX (tb_IA ha1) hi8 dX11_minuteGoes_73 ?_
      refine V_iconst (v := 1) hX dX11_minuteGoes_74 (by decide) ?_
      refine V_iadd hX dX11_minuteGoes_75 ?_
      obtain ⟨hi9, hP⟩ := gd_e hP
      refine V_iast hX (tb_IA ha1) hi9 dX11_minuteGoes_76 (fun w10 ew10 => ?_)
      replace hP := lt_r ew10 hP
      refine V_aload_n hX dX11_minuteGoes_77 2 rfl ?_
      refine V_bipush (v := 13) hX dX11_minuteGoes_78 (by decide) ?_
      refine V_dup2 hX dX11_minuteGoes_80 rfl rfl ?_
      obtain ⟨hi11, hP⟩ := gd_e hP
      refine V_iald hX (tb_IA ha1) hi11 dX11_minuteGoes_81 ?_
      refine V_aload_n hX dX11_minuteGoes_82 2 rfl ?_
      refine V_bipush (v := 12) hX dX11_minuteGoes_83 (by decide) ?_
      obtain ⟨hi12, hP⟩ := gd_e hP
      refine V_iald hX (tb_IA ha1) hi12 dX11_minuteGoes_85 ?_
      refine V_aload_n hX dX11_minuteGoes_86 1 rfl ?_
      refine V_getF (j := 94) hX fk_X11_26 tb_88 (fun _ _ _ => rfl) dX11_minuteGoes_87 ?_
      refine V_iconst (v := 2) hX dX11_minuteGoes_90 (by decide) ?_
      obtain ⟨hi13, hP⟩ := gd_e hP
      refine V_iald hX tb_94 hi13 dX11_minuteGoes_91 ?_
      refine V_iconst (v := 1) hX dX11_minuteGoes_92 (by decide) ?_
      refine V_iadd hX dX11_minuteGoes_93 ?_
      have k48 : V X S w10 102 [(2, .int x6), (0, rf S 88), (1, rf S a1)] [.int (if (gI w10 a1 12) = ((gI w10 94 2) + 1) then 1 else 0), .int (gI w10 a1 13), .int 13, rf S a1] := by
        refine V_topi (fun x15 ex15 => ?_)
        replace hP := lt_r ex15 hP
        obtain ⟨x17, w16, hcw16, hP⟩ := bnd_e hP
        refine V_callSi (As := [.int x15]) (rest := [.int (gI w10 a1 13), .int 13, rf S a1]) hX mk_X11_138 nk_X11_flag (fun l => c_X11_flag l S  hcw16) ⟨rfl, rfl, Nat.le_of_ble_eq_true rfl, Nat.le_of_ble_eq_true rfl⟩ rfl rfl (Nat.le_of_ble_eq_true rfl) dX11_minuteGoes_102 ?_
        refine V_iadd hX dX11_minuteGoes_105 ?_
        obtain ⟨hi18, hP⟩ := gd_e hP
        refine V_iast hX (tb_IA ha1) hi18 dX11_minuteGoes_106 (fun w19 ew19 => ?_)
        replace hP := lt_r ew19 hP
        refine V_sub (lv' := [(0, rf S 88), (1, rf S a1), (2, .int x6)]) [1, 2, 0] rfl ?_
        exact sK_X11_minuteGoes_107 hX hR ha1   hP
      refine V_icmp_ne (tgt := 101) hX dX11_minuteGoes_94 (by decide) (fun hc14 => ?_) (fun hc14 => ?_)
      · refine V_iconst (v := 0) hX dX11_minuteGoes_101 (by decide) ?_
        refine V_selF (c := (gI w10 a1 12) = ((gI w10 94 2) + 1)) (a := 1) hc14 ?_
        exact k48
      · refine V_iconst (v := 1) hX dX11_minuteGoes_97 (by decide) ?_
        refine V_goto (tgt := 102) hX dX11_minuteGoes_98 (by decide) ?_
        refine V_selT (c := (gI w10 a1 12) = ((gI w10 94 2) + 1)) (b := 0) hc14 ?_
        exact k48
    · replace hP := ite_f hc7 hP
      refine V_aload_n hX dX11_minuteGoes_22 2 rfl ?_
      refine V_bipush (v := 11) hX dX11_minuteGoes_23 (by decide) ?_
      refine V_dup2 hX dX11_minuteGoes_25 rfl rfl ?_
      obtain ⟨hi49, hP⟩ := gd_e hP
      refine V_iald hX (tb_IA ha1) hi49 dX11_minuteGoes_26 ?_
      refine V_iconst (v := 1) hX dX11_minuteGoes_27 (by decide) ?_
      refine V_iadd hX dX11_minuteGoes_28 ?_
      obtain ⟨hi50, hP⟩ := gd_e hP
      refine V_iast hX (tb_IA ha1) hi50 dX11_minuteGoes_29 (fun w51 ew51 => ?_)
      replace hP := lt_r ew51 hP
      refine V_aload_n hX dX11_minuteGoes_30 2 rfl ?_
      refine V_bipush (v := 12) hX dX11_minuteGoes_31 (by decide) ?_
      refine V_iconst (v := 0) hX dX11_minuteGoes_33 (by decide) ?_
      obtain ⟨hi52, hP⟩ := gd_e hP
      refine V_iast hX (tb_IA ha1) hi52 dX11_minuteGoes_34 (fun w53 ew53 => ?_)
      replace hP := lt_r ew53 hP
      refine V_aload_n hX dX11_minuteGoes_35 2 rfl ?_
      refine V_bipush (v := 9) hX dX11_minuteGoes_36 (by decide) ?_
      refine V_iconst (v := 0) hX dX11_minuteGoes_38 (by decide) ?_
      refine V_aload_n hX dX11_minuteGoes_39 2 rfl ?_
      refine V_bipush (v := 9) hX dX11_minuteGoes_40 (by decide) ?_
      obtain ⟨hi54, hP⟩ := gd_e hP
      refine V_iald hX (tb_IA ha1) hi54 dX11_minuteGoes_42 ?_
      refine V_aload_n hX dX11_minuteGoes_43 2 rfl ?_
      refine V_bipush (v := 11) hX dX11_minuteGoes_44 (by decide) ?_
      obtain ⟨hi55, hP⟩ := gd_e hP
      refine V_iald hX (tb_IA ha1) hi55 dX11_minuteGoes_46 ?_
      refine V_bipush (v := 10) hX dX11_minuteGoes_47 (by decide) ?_
      refine V_irem hX dX11_minuteGoes_49 (by decide) ?_
      have k63 : V X S w53 58 [(2, .int x6), (0, rf S 88), (1, rf S a1)] [.int (if (iremI (gI w53 a1 11) 10) = 0 then 1 else 0), .int (gI w53 a1 9), .int 0, .int 9, rf S a1] := by
        refine V_topi (fun x58 ex58 => ?_)
        replace hP := lt_r ex58 hP
        obtain ⟨x60, w59, hcw59, hP⟩ := bnd_e hP
        refine V_callSi (As := [.int x58]) (rest := [.int (gI w53 a1 9), .int 0, .int 9, rf S a1]) hX mk_X11_138 nk_X11_flag (fun l => c_X11_flag l S  hcw59) ⟨rfl, rfl, Nat.le_of_ble_eq_true rfl, Nat.le_of_ble_eq_true rfl⟩ rfl rfl (Nat.le_of_ble_eq_true rfl) dX11_minuteGoes_58 ?_
        refine V_isub hX dX11_minuteGoes_61 ?_
        refine V_max hX mk_X11_280 ⟨Nat.le_of_ble_eq_true rfl, Nat.le_of_ble_eq_true rfl⟩ dX11_minuteGoes_62 ?_
        obtain ⟨hi61, hP⟩ := gd_e hP
        refine V_iast hX (tb_IA ha1) hi61 dX11_minuteGoes_65 (fun w62 ew62 => ?_)
        replace hP := lt_r ew62 hP
        refine V_goto (tgt := 107) hX dX11_minuteGoes_66 (by decide) ?_
        refine V_sub (lv' := [(0, rf S 88), (1, rf S a1), (2, .int x6)]) [1, 2, 0] rfl ?_
        exact sK_X11_minuteGoes_107 hX hR ha1   hP
      refine V_if_ne (tgt := 57) hX dX11_minuteGoes_50 (by decide) (fun hc57 => ?_) (fun hc57 => ?_)
      · refine V_iconst (v := 0) hX dX11_minuteGoes_57 (by decide) ?_
        refine V_selF (c := (iremI (gI w53 a1 11) 10) = 0) (a := 1) hc57 ?_
        exact k63
      · refine V_iconst (v := 1) hX dX11_minuteGoes_53 (by decide) ?_
        refine V_goto (tgt := 58) hX dX11_minuteGoes_54 (by decide) ?_
        refine V_selT (c := (iremI (gI w53 a1 11) 10) = 0) (b := 0) hc57 ?_
        exact k63
  refine V_if_le (tgt := 16) hX dX11_minuteGoes_9 (by decide) (fun hc5 => ?_) (fun hc5 => ?_)
  · refine V_iconst (v := 0) hX dX11_minuteGoes_16 (by decide) ?_
    refine V_selT (c := x4 ≤ 0) (b := 1) hc5 ?_
    exact k64
  · refine V_iconst (v := 1) hX dX11_minuteGoes_12 (by decide) ?_
    refine V_goto (tgt := 17) hX dX11_minuteGoes_13 (by decide) ?_
    refine V_selF (c := x4 ≤ 0) (a := 0) hc5 ?_
    exact k64
theorem c_X11_minuteGoes (l : Launch) (S : Sx) {r : Int32 × Wd} {F : Nat} {w : Wd} {a1 : Nat} (ha1 : isIA a1 = true) (h : P_X11_minuteGoes F w a1 = some r) : Met l yX11_minuteGoes (wsg yX11_minuteGoes cX11_minuteGoes 4 (some .boolean)) rm_X11_minuteGoes (PC S w [rf S 88, rf S a1]) (QCi S r) 0 0 (Aw S) :=
  met_i (by decide) rfl (Nat.le_of_ble_eq_true rfl) ⟨rfl, rfl⟩ (fun X hX hR => s_X11_minuteGoes ha1 hX hR h)

-- MustNotStopModel.takes([II)I
abbrev rm_X11_takes : Room := { frames := 3, cells := 0, slots := 0, locals := 110 }
theorem nk_X11_takes : MNk yX11_takes RX11 2 := ⟨rfl, by decide, by decide, by decide +kernel⟩
def P_X11_takes (F : Nat) (w : Wd) (a1 : Nat) (x2 : Int32) : Option (Int32 × Wd) := bnd (P_X11_isRinger F w x2) (fun x4 w3 => (if x4 = 0 then some ((-1), w3) else gd (inB 8 (alen a1)) (bnd (P_X11_has F w3 (gI w3 a1 8) x2) (fun x8 w7 => (if x8 = 0 then gd (inB 8 (alen a1)) (bnd (P_J6_bitCount_0f7a4 F w7 (gI w7 a1 8)) (fun x12 w11 => (if x12 = 3 then some ((-3), w11) else gd (inB 8 (alen a1)) (gd (inB 8 (alen a1)) (lt (sI w11 a1 8 ((gI w11 a1 8) ||| (ishlI 1 x2))) (fun w16 => gd (inB 8 (alen a1)) (bnd (P_J6_bitCount_0f7a4 F w16 (gI w16 a1 8)) (fun x19 w18 => some (x19, w18))))))))) else some ((-2), w7))))))
set_option maxRecDepth 100000 in
set_option maxHeartbeats 4000000 in
theorem s_X11_takes {X : Cx} {S : Sx} {r : Int32 × Wd} {F : Nat} {w : Wd} {a1 : Nat} {x2 : Int32} (ha1 : isIA a1 = true) (hX : Ok X S cX11_takes RX11 3 rm_X11_takes) (hR : HRt X S cX11_takes .int r) (hP : P_X11_takes F w a1 x2 = some r) : V X S w 0 [(0, rf S 88), (1, rf S a1), (2, .int x2)] [] := by
  unfold P_X11_takes at hP
  refine V_aload_n hX dX11_takes_0 0 rfl ?_
  refine V_iload_n hX dX11_takes_1 2 rfl ?_
  obtain ⟨x4, w3, hcw3, hP⟩ := bnd_e hP
  refine V_callVi (As := [.int x2]) (rest := []) hX mk_X11_260 nk_X11_isRinger (fun l => c_X11_isRinger l S  hcw3) tb_88 rfl ⟨rfl, rfl, Nat.le_of_ble_eq_true rfl, Nat.le_of_ble_eq_true rfl⟩ rfl rfl (Nat.le_of_ble_eq_true rfl) dX11_takes_2 ?_
  refine V_if_ne (tgt := 10) hX dX11_takes_5 (by decide) (fun hc5 => ?_) (fun hc5 => ?_)
  · replace hP := ite_f hc5 hP
    refine V_aload_n hX dX11_takes_10 1 rfl ?_
    refine V_bipush (v := 8) hX dX11_takes_11 (by decide) ?_
    obtain ⟨hi6, hP⟩ := gd_e hP
    refine V_iald hX (tb_IA ha1) hi6 dX11_takes_13 ?_
    refine V_iload_n hX dX11_takes_14 2 rfl ?_
    obtain ⟨x8, w7, hcw7, hP⟩ := bnd_e hP
    refine V_callSi (As := [.int (gI w3 a1 8), .int x2]) (rest := []) hX mk_X11_240 nk_X11_has (fun l => c_X11_has l S  hcw7) ⟨rfl, rfl, Nat.le_of_ble_eq_true rfl, Nat.le_of_ble_eq_true rfl⟩ rfl rfl (Nat.le_of_ble_eq_true rfl) dX11_takes_15 ?_
    refine V_if_eq (tgt := 24) hX dX11_takes_18 (by decide) (fun hc9 => ?_) (fun hc9 => ?_)
    · replace hP := ite_t hc9 hP
      refine V_aload_n hX dX11_takes_24 1 rfl ?_
      refine V_bipush (v := 8) hX dX11_takes_25 (by decide) ?_
      obtain ⟨hi10, hP⟩ := gd_e hP
      refine V_iald hX (tb_IA ha1) hi10 dX11_takes_27 ?_
      obtain ⟨x12, w11, hcw11, hP⟩ := bnd_e hP
      refine V_callSi (As := [.int (gI w7 a1 8)]) (rest := []) hX mk_X11_248 nk_J6_bitCount_0f7a4 (fun l => c_J6_bitCount_0f7a4 l S  hcw11) ⟨rfl, rfl, Nat.le_of_ble_eq_true rfl, Nat.le_of_ble_eq_true rfl⟩ rfl rfl (Nat.le_of_ble_eq_true rfl) dX11_takes_28 ?_
      refine V_iconst (v := 3) hX dX11_takes_31 (by decide) ?_
      refine V_icmp_ne (tgt := 38) hX dX11_takes_32 (by decide) (fun hc13 => ?_) (fun hc13 => ?_)
      · replace hP := ite_f hc13 hP
        refine V_aload_n hX dX11_takes_38 1 rfl ?_
        refine V_bipush (v := 8) hX dX11_takes_39 (by decide) ?_
        refine V_dup2 hX dX11_takes_41 rfl rfl ?_
        obtain ⟨hi14, hP⟩ := gd_e hP
        refine V_iald hX (tb_IA ha1) hi14 dX11_takes_42 ?_
        refine V_iconst (v := 1) hX dX11_takes_43 (by decide) ?_
        refine V_iload_n hX dX11_takes_44 2 rfl ?_
        refine V_ishl hX dX11_takes_45 ?_
        refine V_ior hX dX11_takes_46 ?_
        obtain ⟨hi15, hP⟩ := gd_e hP
        refine V_iast hX (tb_IA ha1) hi15 dX11_takes_47 (fun w16 ew16 => ?_)
        replace hP := lt_r ew16 hP
        refine V_aload_n hX dX11_takes_48 1 rfl ?_
        refine V_bipush (v := 8) hX dX11_takes_49 (by decide) ?_
        obtain ⟨hi17, hP⟩ := gd_e hP
        refine V_iald hX (tb_IA ha1) hi17 dX11_takes_51 ?_
        obtain ⟨x19, w18, hcw18, hP⟩ := bnd_e hP
        refine V_callSi (As := [.int (gI w16 a1 8)]) (rest := []) hX mk_X11_248 nk_J6_bitCount_0f7a4 (fun l => c_J6_bitCount_0f7a4 l S  hcw18) ⟨rfl, rfl, Nat.le_of_ble_eq_true rfl, Nat.le_of_ble_eq_true rfl⟩ rfl rfl (Nat.le_of_ble_eq_true rfl) dX11_takes_52 ?_
        exact hR _ _ _ _ (Option.some.inj hP) rfl dX11_takes_55
      · replace hP := ite_t hc13 hP
        refine V_bipush (v := (-3)) hX dX11_takes_35 (by decide) ?_
        exact hR _ _ _ _ (Option.some.inj hP) rfl dX11_takes_37
    · replace hP := ite_f hc9 hP
      refine V_bipush (v := (-2)) hX dX11_takes_21 (by decide) ?_
      exact hR _ _ _ _ (Option.some.inj hP) rfl dX11_takes_23
  · replace hP := ite_t hc5 hP
    refine V_iconst (v := (-1)) hX dX11_takes_8 (by decide) ?_
    exact hR _ _ _ _ (Option.some.inj hP) rfl dX11_takes_9
theorem c_X11_takes (l : Launch) (S : Sx) {r : Int32 × Wd} {F : Nat} {w : Wd} {a1 : Nat} {x2 : Int32} (ha1 : isIA a1 = true) (h : P_X11_takes F w a1 x2 = some r) : Met l yX11_takes (wsg yX11_takes cX11_takes 3 (some .int)) rm_X11_takes (PC S w [rf S 88, rf S a1, .int x2]) (QCi S r) 0 0 (Aw S) :=
  met_i (by decide) rfl (Nat.le_of_ble_eq_true rfl) ⟨rfl, rfl⟩ (fun X hX hR => s_X11_takes ha1 hX hR h)

-- MustNotStopModel.leaves([II)I
abbrev rm_X11_leaves : Room := { frames := 3, cells := 0, slots := 0, locals := 110 }
theorem nk_X11_leaves : MNk yX11_leaves RX11 2 := ⟨rfl, by decide, by decide, by decide +kernel⟩
def P_X11_leaves (F : Nat) (w : Wd) (a1 : Nat) (x2 : Int32) : Option (Int32 × Wd) := bnd (P_X11_isRinger F w x2) (fun x4 w3 => (if x4 = 0 then some ((-1), w3) else gd (inB 8 (alen a1)) (bnd (P_X11_has F w3 (gI w3 a1 8) x2) (fun x8 w7 => (if x8 = 0 then some ((-2), w7) else gd (inB 8 (alen a1)) (gd (inB 8 (alen a1)) (lt (sI w7 a1 8 ((gI w7 a1 8) &&& ((ishlI 1 x2) ^^^ ((-1))))) (fun w12 => gd (inB 8 (alen a1)) (bnd (P_J6_bitCount_0f7a4 F w12 (gI w12 a1 8)) (fun x15 w14 => some (x15, w14)))))))))))
set_option maxRecDepth 100000 in
set_option maxHeartbeats 4000000 in
theorem s_X11_leaves {X : Cx} {S : Sx} {r : Int32 × Wd} {F : Nat} {w : Wd} {a1 : Nat} {x2 : Int32} (ha1 : isIA a1 = true) (hX : Ok X S cX11_leaves RX11 3 rm_X11_leaves) (hR : HRt X S cX11_leaves .int r) (hP : P_X11_leaves F w a1 x2 = some r) : V X S w 0 [(0, rf S 88), (1, rf S a1), (2, .int x2)] [] := by
  unfold P_X11_leaves at hP
  refine V_aload_n hX dX11_leaves_0 0 rfl ?_
  refine V_iload_n hX dX11_leaves_1 2 rfl ?_
  obtain ⟨x4, w3, hcw3, hP⟩ := bnd_e hP
  refine V_callVi (As := [.int x2]) (rest := []) hX mk_X11_260 nk_X11_isRinger (fun l => c_X11_isRinger l S  hcw3) tb_88 rfl ⟨rfl, rfl, Nat.le_of_ble_eq_true rfl, Nat.le_of_ble_eq_true rfl⟩ rfl rfl (Nat.le_of_ble_eq_true rfl) dX11_leaves_2 ?_
  refine V_if_ne (tgt := 10) hX dX11_leaves_5 (by decide) (fun hc5 => ?_) (fun hc5 => ?_)
  · replace hP := ite_f hc5 hP
    refine V_aload_n hX dX11_leaves_10 1 rfl ?_
    refine V_bipush (v := 8) hX dX11_leaves_11 (by decide) ?_
    obtain ⟨hi6, hP⟩ := gd_e hP
    refine V_iald hX (tb_IA ha1) hi6 dX11_leaves_13 ?_
    refine V_iload_n hX dX11_leaves_14 2 rfl ?_
    obtain ⟨x8, w7, hcw7, hP⟩ := bnd_e hP
    refine V_callSi (As := [.int (gI w3 a1 8), .int x2]) (rest := []) hX mk_X11_240 nk_X11_has (fun l => c_X11_has l S  hcw7) ⟨rfl, rfl, Nat.le_of_ble_eq_true rfl, Nat.le_of_ble_eq_true rfl⟩ rfl rfl (Nat.le_of_ble_eq_true rfl) dX11_leaves_15 ?_
    refine V_if_ne (tgt := 24) hX dX11_leaves_18 (by decide) (fun hc9 => ?_) (fun hc9 => ?_)
    · replace hP := ite_f hc9 hP
      refine V_aload_n hX dX11_leaves_24 1 rfl ?_
      refine V_bipush (v := 8) hX dX11_leaves_25 (by decide) ?_
      refine V_dup2 hX dX11_leaves_27 rfl rfl ?_
      obtain ⟨hi10, hP⟩ := gd_e hP
      refine V_iald hX (tb_IA ha1) hi10 dX11_leaves_28 ?_
      refine V_iconst (v := 1) hX dX11_leaves_29 (by decide) ?_
      refine V_iload_n hX dX11_leaves_30 2 rfl ?_
      refine V_ishl hX dX11_leaves_31 ?_
      refine V_iconst (v := (-1)) hX dX11_leaves_32 (by decide) ?_
      refine V_ixor hX dX11_leaves_33 ?_
      refine V_iand hX dX11_leaves_34 ?_
      obtain ⟨hi11, hP⟩ := gd_e hP
      refine V_iast hX (tb_IA ha1) hi11 dX11_leaves_35 (fun w12 ew12 => ?_)
      replace hP := lt_r ew12 hP
      refine V_aload_n hX dX11_leaves_36 1 rfl ?_
      refine V_bipush (v := 8) hX dX11_leaves_37 (by decide) ?_
      obtain ⟨hi13, hP⟩ := gd_e hP
      refine V_iald hX (tb_IA ha1) hi13 dX11_leaves_39 ?_
      obtain ⟨x15, w14, hcw14, hP⟩ := bnd_e hP
      refine V_callSi (As := [.int (gI w12 a1 8)]) (rest := []) hX mk_X11_248 nk_J6_bitCount_0f7a4 (fun l => c_J6_bitCount_0f7a4 l S  hcw14) ⟨rfl, rfl, Nat.le_of_ble_eq_true rfl, Nat.le_of_ble_eq_true rfl⟩ rfl rfl (Nat.le_of_ble_eq_true rfl) dX11_leaves_40 ?_
      exact hR _ _ _ _ (Option.some.inj hP) rfl dX11_leaves_43
    · replace hP := ite_t hc9 hP
      refine V_bipush (v := (-2)) hX dX11_leaves_21 (by decide) ?_
      exact hR _ _ _ _ (Option.some.inj hP) rfl dX11_leaves_23
  · replace hP := ite_t hc5 hP
    refine V_iconst (v := (-1)) hX dX11_leaves_8 (by decide) ?_
    exact hR _ _ _ _ (Option.some.inj hP) rfl dX11_leaves_9
theorem c_X11_leaves (l : Launch) (S : Sx) {r : Int32 × Wd} {F : Nat} {w : Wd} {a1 : Nat} {x2 : Int32} (ha1 : isIA a1 = true) (h : P_X11_leaves F w a1 x2 = some r) : Met l yX11_leaves (wsg yX11_leaves cX11_leaves 3 (some .int)) rm_X11_leaves (PC S w [rf S 88, rf S a1, .int x2]) (QCi S r) 0 0 (Aw S) :=
  met_i (by decide) rfl (Nat.le_of_ble_eq_true rfl) ⟨rfl, rfl⟩ (fun X hX hR => s_X11_leaves ha1 hX hR h)
