-- ===== the throwing methods: contracts =====
abbrev rmx_X10_ringer : Room := { frames := 6, cells := 1, slots := 6, locals := 143 }
set_option maxRecDepth 100000 in
set_option maxHeartbeats 4000000 in
theorem sy_X10_ringer {X : Cx} {S : Sx} {r : Option Int32 × Wd} {F : Nat} {w : Wd} {x1 : Int32} {x2 : Int32}  (hX : Ok X S cX10_ringer RX10 3 rmx_X10_ringer) (hR : HYi X S cX10_ringer r) (hP : P_X10_ringer F w x1 x2 = some r) : V X S w 0 [(0, rf S 0), (1, .int x1), (2, .int x2)] [] := by
  unfold P_X10_ringer at hP
  refine V_aload_n hX dX10_ringer_0 0 rfl ?_
  refine V_getF (j := 5) hX fk_X10_34 tb_0 (fun _ _ _ => rfl) dX10_ringer_1 ?_
  refine V_getF (j := 6) hX fk_X10_38 tb_5 (fun _ _ _ => rfl) dX10_ringer_4 ?_
  refine V_iload_n hX dX10_ringer_7 1 rfl ?_
  obtain ⟨x4, w3, hcw3, hP⟩ := bnd_e hP
  refine V_callVi (As := [.int x1]) (rest := []) hX mk_X10_121 nk_X5_has (fun l => c_X5_has l S (by decide) hcw3) tb_6 rfl ⟨rfl, rfl, Nat.le_of_ble_eq_true rfl, Nat.le_of_ble_eq_true rfl⟩ rfl rfl (Nat.le_of_ble_eq_true rfl) dX10_ringer_8 ?_
  refine V_if_ne (tgt := 22) hX dX10_ringer_11 (by decide) (fun hc5 => ?_) (fun hc5 => ?_)
  · replace hP := ite_f hc5 hP
    refine V_iload_n hX dX10_ringer_22 2 rfl ?_
    by_cases hc6 : x2 = 0
    · replace hP := ite_t hc6 hP
      refine V_tableIn (tgt := 56) hX dX10_ringer_23 (by rw [hc6]; decide) (by rw [hc6]; decide) (by rw [hc6] <;> rfl) (by decide) ?_
      refine V_aload_n hX dX10_ringer_56 0 rfl ?_
      refine V_getF (j := 5) hX fk_X10_34 tb_0 (fun _ _ _ => rfl) dX10_ringer_57 ?_
      refine V_getF (j := 6) hX fk_X10_38 tb_5 (fun _ _ _ => rfl) dX10_ringer_60 ?_
      refine V_iload_n hX dX10_ringer_63 1 rfl ?_
      obtain ⟨x8, w7, hcw7, hP⟩ := bnd_e hP
      refine V_callVi (As := [.int x1]) (rest := []) hX mk_X10_128 nk_X5_firstOf (fun l => c_X5_firstOf l S (by decide) hcw7) tb_6 rfl ⟨rfl, rfl, Nat.le_of_ble_eq_true rfl, Nat.le_of_ble_eq_true rfl⟩ rfl rfl (Nat.le_of_ble_eq_true rfl) dX10_ringer_64 ?_
      exact hR.1 _ _ _ _ (Option.some.inj hP) dX10_ringer_67
    replace hP := ite_f hc6 hP
    by_cases hc9 : x2 = 1
    · replace hP := ite_t hc9 hP
      refine V_tableIn (tgt := 68) hX dX10_ringer_23 (by rw [hc9]; decide) (by rw [hc9]; decide) (by rw [hc9] <;> rfl) (by decide) ?_
      refine V_aload_n hX dX10_ringer_68 0 rfl ?_
      refine V_getF (j := 5) hX fk_X10_34 tb_0 (fun _ _ _ => rfl) dX10_ringer_69 ?_
      refine V_getF (j := 6) hX fk_X10_38 tb_5 (fun _ _ _ => rfl) dX10_ringer_72 ?_
      refine V_iload_n hX dX10_ringer_75 1 rfl ?_
      obtain ⟨x11, w10, hcw10, hP⟩ := bnd_e hP
      refine V_callVi (As := [.int x1]) (rest := []) hX mk_X10_132 nk_X5_secondOf (fun l => c_X5_secondOf l S (by decide) hcw10) tb_6 rfl ⟨rfl, rfl, Nat.le_of_ble_eq_true rfl, Nat.le_of_ble_eq_true rfl⟩ rfl rfl (Nat.le_of_ble_eq_true rfl) dX10_ringer_76 ?_
      exact hR.1 _ _ _ _ (Option.some.inj hP) dX10_ringer_79
    replace hP := ite_f hc9 hP
    by_cases hc12 : x2 = 2
    · replace hP := ite_t hc12 hP
      refine V_tableIn (tgt := 80) hX dX10_ringer_23 (by rw [hc12]; decide) (by rw [hc12]; decide) (by rw [hc12] <;> rfl) (by decide) ?_
      refine V_aload_n hX dX10_ringer_80 0 rfl ?_
      refine V_getF (j := 23) hX fk_X10_58 tb_0 (fun _ _ _ => rfl) dX10_ringer_81 ?_
      refine V_iload_n hX dX10_ringer_84 1 rfl ?_
      obtain ⟨x14, w13, hcw13, hP⟩ := bnd_e hP
      refine V_callVi (As := [.int x1]) (rest := []) hX mk_X10_135 nk_X1_tiredOf (fun l => c_X1_tiredOf l S (by decide) hcw13) tb_23 rfl ⟨rfl, rfl, Nat.le_of_ble_eq_true rfl, Nat.le_of_ble_eq_true rfl⟩ rfl rfl (Nat.le_of_ble_eq_true rfl) dX10_ringer_85 ?_
      exact hR.1 _ _ _ _ (Option.some.inj hP) dX10_ringer_88
    replace hP := ite_f hc12 hP
    by_cases hc15 : x2 = 3
    · replace hP := ite_t hc15 hP
      refine V_tableIn (tgt := 89) hX dX10_ringer_23 (by rw [hc15]; decide) (by rw [hc15]; decide) (by rw [hc15] <;> rfl) (by decide) ?_
      refine V_aload_n hX dX10_ringer_89 0 rfl ?_
      refine V_getF (j := 23) hX fk_X10_58 tb_0 (fun _ _ _ => rfl) dX10_ringer_90 ?_
      refine V_iload_n hX dX10_ringer_93 1 rfl ?_
      obtain ⟨x17, w16, hcw16, hP⟩ := bnd_e hP
      refine V_callVi (As := [.int x1]) (rest := []) hX mk_X10_138 nk_X1_holds (fun l => c_X1_holds l S (by decide) hcw16) tb_23 rfl ⟨rfl, rfl, Nat.le_of_ble_eq_true rfl, Nat.le_of_ble_eq_true rfl⟩ rfl rfl (Nat.le_of_ble_eq_true rfl) dX10_ringer_94 ?_
      have k20 : V X S w16 105 [(0, rf S 0), (1, .int x1), (2, .int x2)] [.int (if x17 = 0 then 0 else 1)] := by
        refine V_topi (fun x19 ex19 => ?_)
        replace hP := lt_r ex19 hP
        exact hR.1 _ _ _ _ (Option.some.inj hP) dX10_ringer_105
      refine V_if_eq (tgt := 104) hX dX10_ringer_97 (by decide) (fun hc18 => ?_) (fun hc18 => ?_)
      · refine V_iconst (v := 0) hX dX10_ringer_104 (by decide) ?_
        refine V_selT (c := x17 = 0) (b := 1) hc18 ?_
        exact k20
      · refine V_iconst (v := 1) hX dX10_ringer_100 (by decide) ?_
        refine V_goto (tgt := 105) hX dX10_ringer_101 (by decide) ?_
        refine V_selF (c := x17 = 0) (a := 0) hc18 ?_
        exact k20
    replace hP := ite_f hc15 hP
    by_cases hc21 : x2 = 4
    · replace hP := ite_t hc21 hP
      refine V_tableIn (tgt := 106) hX dX10_ringer_23 (by rw [hc21]; decide) (by rw [hc21]; decide) (by rw [hc21] <;> rfl) (by decide) ?_
      refine V_aload_n hX dX10_ringer_106 0 rfl ?_
      refine V_getF (j := 5) hX fk_X10_34 tb_0 (fun _ _ _ => rfl) dX10_ringer_107 ?_
      refine V_aload_n hX dX10_ringer_110 0 rfl ?_
      refine V_getF (j := 23) hX fk_X10_58 tb_0 (fun _ _ _ => rfl) dX10_ringer_111 ?_
      refine V_iconst (v := 1) hX dX10_ringer_114 (by decide) ?_
      refine V_iload_n hX dX10_ringer_115 1 rfl ?_
      refine V_ishl hX dX10_ringer_116 ?_
      obtain ⟨x23, w22, hcw22, hP⟩ := bnd_e hP
      refine V_callVi (As := [rf S 23, .int (ishlI 1 x1)]) (rest := []) hX mk_X10_141 nk_X9_volume (fun l => c_X9_volume l S (by decide) (by decide) hcw22) tb_5 rfl ⟨rfl, rfl, Nat.le_of_ble_eq_true rfl, Nat.le_of_ble_eq_true rfl⟩ rfl rfl (Nat.le_of_ble_eq_true rfl) dX10_ringer_117 ?_
      exact hR.1 _ _ _ _ (Option.some.inj hP) dX10_ringer_120
    replace hP := ite_f hc21 hP
    refine V_tableOut (tgt := 121) hX dX10_ringer_23 (ts_out (fun k h1 h2 => by
        have hk : k = 0 ∨ k = 1 ∨ k = 2 ∨ k = 3 ∨ k = 4 := by omega
        rcases hk with rfl | rfl | rfl | rfl | rfl
        · exact fun e => hc6 (by rw [e]; rfl)
        · exact fun e => hc9 (by rw [e]; rfl)
        · exact fun e => hc12 (by rw [e]; rfl)
        · exact fun e => hc15 (by rw [e]; rfl)
        · exact fun e => hc21 (by rw [e]; rfl)
        )) (by decide) ?_
    exact hR.2 _ _ _ (Option.some.inj hP) ⟨dX10_ringer_121, dX10_ringer_124, dX10_ringer_125, dX10_ringer_128⟩
  · replace hP := ite_t hc5 hP
    exact hR.2 _ _ _ (Option.some.inj hP) ⟨dX10_ringer_14, dX10_ringer_17, dX10_ringer_18, dX10_ringer_21⟩
theorem cx_X10_ringer (l : Launch) (hl : l.stackTraces = false) (S : Sx) {r : Option Int32 × Wd} {F : Nat} {w : Wd} {x1 x2 : Int32} (h : P_X10_ringer F w x1 x2 = some r) : vx_Met l yX10_ringer (wsg yX10_ringer cX10_ringer 3 (some .int)) rmx_X10_ringer (PX S w [rf S 0, .int x1, .int x2]) (QXi S r) (XX S r) 1 6 (Aw S) :=
  metx_i hl (by decide) rfl (Nat.le_of_ble_eq_true rfl) ⟨rfl, rfl, Nat.le_of_ble_eq_true rfl, Nat.le_of_ble_eq_true rfl⟩ (fun X hX hR => sy_X10_ringer hX hR h)
abbrev rmx_X10_person : Room := { frames := 6, cells := 1, slots := 6, locals := 106 }
set_option maxRecDepth 100000 in
set_option maxHeartbeats 4000000 in
theorem sy_X10_person {X : Cx} {S : Sx} {r : Option Int32 × Wd} {F : Nat} {w : Wd} {x1 : Int32} {x2 : Int32}  (hX : Ok X S cX10_person RX10 3 rmx_X10_person) (hR : HYi X S cX10_person r) (hP : P_X10_person F w x1 x2 = some r) : V X S w 0 [(0, rf S 0), (1, .int x1), (2, .int x2)] [] := by
  unfold P_X10_person at hP
  refine V_aload_n hX dX10_person_0 0 rfl ?_
  refine V_getF (j := 5) hX fk_X10_34 tb_0 (fun _ _ _ => rfl) dX10_person_1 ?_
  refine V_getF (j := 9) hX fk_X10_42 tb_5 (fun _ _ _ => rfl) dX10_person_4 ?_
  refine V_iload_n hX dX10_person_7 1 rfl ?_
  obtain ⟨x4, w3, hcw3, hP⟩ := bnd_e hP
  refine V_callVi (As := [.int x1]) (rest := []) hX mk_X10_121 nk_X5_has (fun l => c_X5_has l S (by decide) hcw3) tb_9 rfl ⟨rfl, rfl, Nat.le_of_ble_eq_true rfl, Nat.le_of_ble_eq_true rfl⟩ rfl rfl (Nat.le_of_ble_eq_true rfl) dX10_person_8 ?_
  refine V_if_ne (tgt := 22) hX dX10_person_11 (by decide) (fun hc5 => ?_) (fun hc5 => ?_)
  · replace hP := ite_f hc5 hP
    refine V_iload_n hX dX10_person_22 2 rfl ?_
    by_cases hc6 : x2 = 0
    · replace hP := ite_t hc6 hP
      refine V_tableIn (tgt := 48) hX dX10_person_23 (by rw [hc6]; decide) (by rw [hc6]; decide) (by rw [hc6] <;> rfl) (by decide) ?_
      refine V_aload_n hX dX10_person_48 0 rfl ?_
      refine V_getF (j := 5) hX fk_X10_34 tb_0 (fun _ _ _ => rfl) dX10_person_49 ?_
      refine V_getF (j := 9) hX fk_X10_42 tb_5 (fun _ _ _ => rfl) dX10_person_52 ?_
      refine V_iload_n hX dX10_person_55 1 rfl ?_
      obtain ⟨x8, w7, hcw7, hP⟩ := bnd_e hP
      refine V_callVi (As := [.int x1]) (rest := []) hX mk_X10_128 nk_X5_firstOf (fun l => c_X5_firstOf l S (by decide) hcw7) tb_9 rfl ⟨rfl, rfl, Nat.le_of_ble_eq_true rfl, Nat.le_of_ble_eq_true rfl⟩ rfl rfl (Nat.le_of_ble_eq_true rfl) dX10_person_56 ?_
      exact hR.1 _ _ _ _ (Option.some.inj hP) dX10_person_59
    replace hP := ite_f hc6 hP
    by_cases hc9 : x2 = 1
    · replace hP := ite_t hc9 hP
      refine V_tableIn (tgt := 60) hX dX10_person_23 (by rw [hc9]; decide) (by rw [hc9]; decide) (by rw [hc9] <;> rfl) (by decide) ?_
      refine V_aload_n hX dX10_person_60 0 rfl ?_
      refine V_getF (j := 5) hX fk_X10_34 tb_0 (fun _ _ _ => rfl) dX10_person_61 ?_
      refine V_getF (j := 9) hX fk_X10_42 tb_5 (fun _ _ _ => rfl) dX10_person_64 ?_
      refine V_iload_n hX dX10_person_67 1 rfl ?_
      obtain ⟨x11, w10, hcw10, hP⟩ := bnd_e hP
      refine V_callVi (As := [.int x1]) (rest := []) hX mk_X10_132 nk_X5_secondOf (fun l => c_X5_secondOf l S (by decide) hcw10) tb_9 rfl ⟨rfl, rfl, Nat.le_of_ble_eq_true rfl, Nat.le_of_ble_eq_true rfl⟩ rfl rfl (Nat.le_of_ble_eq_true rfl) dX10_person_68 ?_
      exact hR.1 _ _ _ _ (Option.some.inj hP) dX10_person_71
    replace hP := ite_f hc9 hP
    by_cases hc12 : x2 = 2
    · replace hP := ite_t hc12 hP
      refine V_tableIn (tgt := 72) hX dX10_person_23 (by rw [hc12]; decide) (by rw [hc12]; decide) (by rw [hc12] <;> rfl) (by decide) ?_
      refine V_aload_n hX dX10_person_72 0 rfl ?_
      refine V_getF (j := 23) hX fk_X10_58 tb_0 (fun _ _ _ => rfl) dX10_person_73 ?_
      refine V_getI hX fk_X10_145 tb_23 (fun _ _ _ => rfl) dX10_person_76 ?_
      refine V_iload_n hX dX10_person_79 1 rfl ?_
      refine V_ishr hX dX10_person_80 ?_
      refine V_iconst (v := 1) hX dX10_person_81 (by decide) ?_
      refine V_iand hX dX10_person_82 ?_
      exact hR.1 _ _ _ _ (Option.some.inj hP) dX10_person_83
    replace hP := ite_f hc12 hP
    refine V_tableOut (tgt := 84) hX dX10_person_23 (ts_out (fun k h1 h2 => by
        have hk : k = 0 ∨ k = 1 ∨ k = 2 := by omega
        rcases hk with rfl | rfl | rfl
        · exact fun e => hc6 (by rw [e]; rfl)
        · exact fun e => hc9 (by rw [e]; rfl)
        · exact fun e => hc12 (by rw [e]; rfl)
        )) (by decide) ?_
    exact hR.2 _ _ _ (Option.some.inj hP) ⟨dX10_person_84, dX10_person_87, dX10_person_88, dX10_person_91⟩
  · replace hP := ite_t hc5 hP
    exact hR.2 _ _ _ (Option.some.inj hP) ⟨dX10_person_14, dX10_person_17, dX10_person_18, dX10_person_21⟩
theorem cx_X10_person (l : Launch) (hl : l.stackTraces = false) (S : Sx) {r : Option Int32 × Wd} {F : Nat} {w : Wd} {x1 x2 : Int32} (h : P_X10_person F w x1 x2 = some r) : vx_Met l yX10_person (wsg yX10_person cX10_person 3 (some .int)) rmx_X10_person (PX S w [rf S 0, .int x1, .int x2]) (QXi S r) (XX S r) 1 6 (Aw S) :=
  metx_i hl (by decide) rfl (Nat.le_of_ble_eq_true rfl) ⟨rfl, rfl, Nat.le_of_ble_eq_true rfl, Nat.le_of_ble_eq_true rfl⟩ (fun X hX hR => sy_X10_person hX hR h)
abbrev rmx_X10_row : Room := { frames := 6, cells := 1, slots := 6, locals := 85 }
set_option maxRecDepth 100000 in
set_option maxHeartbeats 4000000 in
theorem syK_X10_row_15 {X : Cx} {S : Sx} {r : Option Int64 × Wd} {F : Nat} {x1 : Int32}  {w : Wd}  (hX : Ok X S cX10_row RX10 2 rmx_X10_row) (hR : HYl X S cX10_row r)    (hP : K_X10_row_15 F x1  w  = some r) : V X S w 15 [] [] := by
  unfold K_X10_row_15 at hP
  exact hR.2 _ _ _ (Option.some.inj hP) ⟨dX10_row_15, dX10_row_18, dX10_row_19, dX10_row_22⟩
set_option maxRecDepth 100000 in
set_option maxHeartbeats 4000000 in
theorem sy_X10_row {X : Cx} {S : Sx} {r : Option Int64 × Wd} {F : Nat} {w : Wd} {x1 : Int32}  (hX : Ok X S cX10_row RX10 2 rmx_X10_row) (hR : HYl X S cX10_row r) (hP : P_X10_row F w x1 = some r) : V X S w 0 [(0, rf S 0), (1, .int x1)] [] := by
  unfold P_X10_row at hP
  refine V_iload_n hX dX10_row_0 1 rfl ?_
  refine V_if_lt (tgt := 15) hX dX10_row_1 (by decide) (fun hc2 => ?_) (fun hc2 => ?_)
  · replace hP := ite_t hc2 hP
    refine V_sub (lv' := []) [] rfl ?_
    exact syK_X10_row_15 hX hR    hP
  · replace hP := ite_f hc2 hP
    refine V_iload_n hX dX10_row_4 1 rfl ?_
    refine V_aload_n hX dX10_row_5 0 rfl ?_
    refine V_getF (j := 3) hX fk_X10_19 tb_0 (fun _ _ _ => rfl) dX10_row_6 ?_
    refine V_getI hX fk_X10_364 tb_3 (fun _ _ _ => rfl) dX10_row_9 ?_
    refine V_icmp_lt (tgt := 23) hX dX10_row_12 (by decide) (fun hc3 => ?_) (fun hc3 => ?_)
    · replace hP := ite_t hc3 hP
      refine V_aload_n hX dX10_row_23 0 rfl ?_
      refine V_getF (j := 3) hX fk_X10_19 tb_0 (fun _ _ _ => rfl) dX10_row_24 ?_
      refine V_iload_n hX dX10_row_27 1 rfl ?_
      obtain ⟨x5, w4, hcw4, hP⟩ := bnd_e hP
      refine V_callVl (As := [.int x1]) (rest := []) hX mk_X10_365 nk_X7_at (fun l => c_X7_at l S  hcw4) tb_3 rfl ⟨rfl, rfl, Nat.le_of_ble_eq_true rfl, Nat.le_of_ble_eq_true rfl⟩ rfl rfl (Nat.le_of_ble_eq_true rfl) dX10_row_28 ?_
      exact hR.1 _ _ _ _ (Option.some.inj hP) dX10_row_31
    · replace hP := ite_f hc3 hP
      refine V_sub (lv' := []) [] rfl ?_
      exact syK_X10_row_15 hX hR    hP
theorem cx_X10_row (l : Launch) (hl : l.stackTraces = false) (S : Sx) {r : Option Int64 × Wd} {F : Nat} {w : Wd} {x1 : Int32} (h : P_X10_row F w x1 = some r) : vx_Met l yX10_row (wsg yX10_row cX10_row 2 (some .long)) rmx_X10_row (PX S w [rf S 0, .int x1]) (QXl S r) (XX S r) 1 6 (Aw S) :=
  metx_l hl (by decide) rfl (Nat.le_of_ble_eq_true rfl) ⟨rfl, rfl, Nat.le_of_ble_eq_true rfl, Nat.le_of_ble_eq_true rfl⟩ (fun X hX hR => sy_X10_row hX hR h)
