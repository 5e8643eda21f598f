-- MustNotStopModel.readsPair(I)Z
abbrev rm_X11_readsPair : Room := { frames := 7, cells := 0, slots := 0, locals := 193 }
theorem nk_X11_readsPair : MNk yX11_readsPair RX11 1 := ⟨rfl, by decide, by decide, by decide +kernel⟩
def K_X11_readsPair_67 (F : Nat) (x1 : Int32)  (w : Wd) (x11 : Int32) (x12 : Int32) : Option (Int32 × Wd) := gd (inB x12 16) (lt (sI w 98 x12.toNatClampNeg x11) (fun w14 => lt (sI w14 88 19 ((gI w14 88 19) + 1)) (fun w15 => gd (inB ((2 * (gI w15 88 19)) - 1) 16) (lt (if (gI w15 98 ((2 * (gI w15 88 19)) - 1).toNatClampNeg) < 0 then 0 else 1 : Int32) (fun x18 => gd (isZO x18) (some (x18, w15)))))))
set_option maxRecDepth 100000 in
set_option maxHeartbeats 4000000 in
theorem sK_X11_readsPair_67 {X : Cx} {S : Sx} {r : Int32 × Wd} {F : Nat} {x1 : Int32}  {w : Wd} {x11 : Int32} {x12 : Int32} (hX : Ok X S cX11_readsPair RX11 2 rm_X11_readsPair) (hR : HRt X S cX11_readsPair .boolean r)    (hP : K_X11_readsPair_67 F x1  w x11 x12 = some r) : V X S w 67 [(0, rf S 88)] [.int x11, .int x12, rf S 98] := by
  unfold K_X11_readsPair_67 at hP
  obtain ⟨hi13, hP⟩ := gd_e hP
  refine V_iast hX tb_98 hi13 dX11_readsPair_67 (fun w14 ew14 => ?_)
  replace hP := lt_r ew14 hP
  refine V_aload_n hX dX11_readsPair_68 0 rfl ?_
  refine V_dup hX dX11_readsPair_69 rfl ?_
  refine V_getI hX fk_X11_164 tb_88 (fun _ _ _ => rfl) dX11_readsPair_70 ?_
  refine V_iconst (v := 1) hX dX11_readsPair_73 (by decide) ?_
  refine V_iadd hX dX11_readsPair_74 ?_
  refine V_putI hX fw_X11_164 tb_88 (fun _ _ _ => ⟨Nat.le_of_ble_eq_true rfl, rfl⟩) dX11_readsPair_75 (fun w15 ew15 => ?_)
  replace hP := lt_r ew15 hP
  refine V_aload_n hX dX11_readsPair_78 0 rfl ?_
  refine V_getF (j := 98) hX fk_X11_38 tb_88 (fun _ _ _ => rfl) dX11_readsPair_79 ?_
  refine V_iconst (v := 2) hX dX11_readsPair_82 (by decide) ?_
  refine V_aload_n hX dX11_readsPair_83 0 rfl ?_
  refine V_getI hX fk_X11_164 tb_88 (fun _ _ _ => rfl) dX11_readsPair_84 ?_
  refine V_imul hX dX11_readsPair_87 ?_
  refine V_iconst (v := 1) hX dX11_readsPair_88 (by decide) ?_
  refine V_isub hX dX11_readsPair_89 ?_
  obtain ⟨hi16, hP⟩ := gd_e hP
  refine V_iald hX tb_98 hi16 dX11_readsPair_90 ?_
  have k20 : V X S w15 99 [(0, rf S 88)] [.int (if (gI w15 98 ((2 * (gI w15 88 19)) - 1).toNatClampNeg) < 0 then 0 else 1)] := by
    refine V_topi (fun x18 ex18 => ?_)
    replace hP := lt_r ex18 hP
    obtain ⟨hz19, hP⟩ := gd_e hP
    exact hR _ _ _ _ (Option.some.inj hP) (nar_z hz19) dX11_readsPair_99
  refine V_if_lt (tgt := 98) hX dX11_readsPair_91 (by decide) (fun hc17 => ?_) (fun hc17 => ?_)
  · refine V_iconst (v := 0) hX dX11_readsPair_98 (by decide) ?_
    refine V_selT (c := (gI w15 98 ((2 * (gI w15 88 19)) - 1).toNatClampNeg) < 0) (b := 1) hc17 ?_
    exact k20
  · refine V_iconst (v := 1) hX dX11_readsPair_94 (by decide) ?_
    refine V_goto (tgt := 99) hX dX11_readsPair_95 (by decide) ?_
    refine V_selF (c := (gI w15 98 ((2 * (gI w15 88 19)) - 1).toNatClampNeg) < 0) (a := 0) hc17 ?_
    exact k20
def P_X11_readsPair (F : Nat) (w : Wd) (x1 : Int32) : Option (Int32 × Wd) := (if (x1 + (gI w 88 19)) = 8 then some (0, w) else bnd (P_X11_takesOf F w 1) (fun x4 w3 => gd (inB (2 * (gI w 88 19)) 16) (lt (sI w3 98 (2 * (gI w 88 19)).toNatClampNeg (1 + x4)) (fun w6 => gd (inB (2 * (gI w6 88 19)) 16) ((if (gI w6 98 (2 * (gI w6 88 19)).toNatClampNeg) = 0 then K_X11_readsPair_67 F x1  w6 ((-1)) ((2 * (gI w6 88 19)) + 1) else bnd (P_X11_number F w6 1) (fun x10 w9 => K_X11_readsPair_67 F x1  w9 x10 ((2 * (gI w6 88 19)) + 1))))))))
set_option maxRecDepth 100000 in
set_option maxHeartbeats 4000000 in
theorem s_X11_readsPair {X : Cx} {S : Sx} {r : Int32 × Wd} {F : Nat} {w : Wd} {x1 : Int32}  (hX : Ok X S cX11_readsPair RX11 2 rm_X11_readsPair) (hR : HRt X S cX11_readsPair .boolean r) (hP : P_X11_readsPair F w x1 = some r) : V X S w 0 [(0, rf S 88), (1, .int x1)] [] := by
  unfold P_X11_readsPair at hP
  refine V_iload_n hX dX11_readsPair_0 1 rfl ?_
  refine V_aload_n hX dX11_readsPair_1 0 rfl ?_
  refine V_getI hX fk_X11_164 tb_88 (fun _ _ _ => rfl) dX11_readsPair_2 ?_
  refine V_iadd hX dX11_readsPair_5 ?_
  refine V_bipush (v := 8) hX dX11_readsPair_6 (by decide) ?_
  refine V_icmp_ne (tgt := 13) hX dX11_readsPair_8 (by decide) (fun hc2 => ?_) (fun hc2 => ?_)
  · replace hP := ite_f hc2 hP
    refine V_aload_n hX dX11_readsPair_13 0 rfl ?_
    refine V_getF (j := 98) hX fk_X11_38 tb_88 (fun _ _ _ => rfl) dX11_readsPair_14 ?_
    refine V_iconst (v := 2) hX dX11_readsPair_17 (by decide) ?_
    refine V_aload_n hX dX11_readsPair_18 0 rfl ?_
    refine V_getI hX fk_X11_164 tb_88 (fun _ _ _ => rfl) dX11_readsPair_19 ?_
    refine V_imul hX dX11_readsPair_22 ?_
    refine V_iconst (v := 1) hX dX11_readsPair_23 (by decide) ?_
    refine V_aload_n hX dX11_readsPair_24 0 rfl ?_
    refine V_ldcS (k := 1) (tx := "123456789") hX dX11_readsPair_25 (fun s h => h.2.2.2.1.2.1) ?_
    obtain ⟨x4, w3, hcw3, hP⟩ := bnd_e hP
    refine V_callVi (As := [.ref (adK S 1)]) (rest := [.int 1, .int (2 * (gI w 88 19)), rf S 98]) hX mk_X11_169 nk_X11_takesOf (fun l => c_X11_takesOf l S (by decide) hcw3) tb_88 rfl ⟨rfl, rfl, Nat.le_of_ble_eq_true rfl, Nat.le_of_ble_eq_true rfl⟩ rfl rfl (Nat.le_of_ble_eq_true rfl) dX11_readsPair_27 ?_
    refine V_iadd hX dX11_readsPair_30 ?_
    obtain ⟨hi5, hP⟩ := gd_e hP
    refine V_iast hX tb_98 hi5 dX11_readsPair_31 (fun w6 ew6 => ?_)
    replace hP := lt_r ew6 hP
    refine V_aload_n hX dX11_readsPair_32 0 rfl ?_
    refine V_getF (j := 98) hX fk_X11_38 tb_88 (fun _ _ _ => rfl) dX11_readsPair_33 ?_
    refine V_iconst (v := 2) hX dX11_readsPair_36 (by decide) ?_
    refine V_aload_n hX dX11_readsPair_37 0 rfl ?_
    refine V_getI hX fk_X11_164 tb_88 (fun _ _ _ => rfl) dX11_readsPair_38 ?_
    refine V_imul hX dX11_readsPair_41 ?_
    refine V_iconst (v := 1) hX dX11_readsPair_42 (by decide) ?_
    refine V_iadd hX dX11_readsPair_43 ?_
    refine V_aload_n hX dX11_readsPair_44 0 rfl ?_
    refine V_getF (j := 98) hX fk_X11_38 tb_88 (fun _ _ _ => rfl) dX11_readsPair_45 ?_
    refine V_iconst (v := 2) hX dX11_readsPair_48 (by decide) ?_
    refine V_aload_n hX dX11_readsPair_49 0 rfl ?_
    refine V_getI hX fk_X11_164 tb_88 (fun _ _ _ => rfl) dX11_readsPair_50 ?_
    refine V_imul hX dX11_readsPair_53 ?_
    obtain ⟨hi7, hP⟩ := gd_e hP
    refine V_iald hX tb_98 hi7 dX11_readsPair_54 ?_
    refine V_if_ne (tgt := 62) hX dX11_readsPair_55 (by decide) (fun hc8 => ?_) (fun hc8 => ?_)
    · replace hP := ite_f hc8 hP
      refine V_aload_n hX dX11_readsPair_62 0 rfl ?_
      refine V_iconst (v := 1) hX dX11_readsPair_63 (by decide) ?_
      obtain ⟨x10, w9, hcw9, hP⟩ := bnd_e hP
      refine V_callVi (As := [.int 1]) (rest := [.int ((2 * (gI w6 88 19)) + 1), rf S 98]) hX mk_X11_172 nk_X11_number (fun l => c_X11_number l S  hcw9) tb_88 rfl ⟨rfl, rfl, Nat.le_of_ble_eq_true rfl, Nat.le_of_ble_eq_true rfl⟩ rfl rfl (Nat.le_of_ble_eq_true rfl) dX11_readsPair_64 ?_
      refine V_sub (lv' := [(0, rf S 88)]) [0] rfl ?_
      exact sK_X11_readsPair_67 hX hR    hP
    · replace hP := ite_t hc8 hP
      refine V_iconst (v := (-1)) hX dX11_readsPair_58 (by decide) ?_
      refine V_goto (tgt := 67) hX dX11_readsPair_59 (by decide) ?_
      refine V_sub (lv' := [(0, rf S 88)]) [0] rfl ?_
      exact sK_X11_readsPair_67 hX hR    hP
  · replace hP := ite_t hc2 hP
    refine V_iconst (v := 0) hX dX11_readsPair_11 (by decide) ?_
    exact hR _ _ _ _ (Option.some.inj hP) rfl dX11_readsPair_12
theorem c_X11_readsPair (l : Launch) (S : Sx) {r : Int32 × Wd} {F : Nat} {w : Wd} {x1 : Int32}  (h : P_X11_readsPair F w x1 = some r) : Met l yX11_readsPair (wsg yX11_readsPair cX11_readsPair 2 (some .boolean)) rm_X11_readsPair (PC S w [rf S 88, .int x1]) (QCi S r) 0 0 (Aw S) :=
  met_i (by decide) rfl (Nat.le_of_ble_eq_true rfl) ⟨rfl, rfl⟩ (fun X hX hR => s_X11_readsPair  hX hR h)

-- MustNotStopModel.readsPairs(I)I
abbrev rm_X11_readsPairs : Room := { frames := 8, cells := 0, slots := 0, locals := 214 }
theorem nk_X11_readsPairs : MNk yX11_readsPairs RX11 1 := ⟨rfl, by decide, by decide, by decide +kernel⟩
def K_X11_readsPairs_54 (F : Nat) (x1 : Int32) (x7 : Int32) (k59 : Wd → Int32 → Option (Int32 × Wd)) (rc : Wd → Int32 → Int32 → Option (Int32 × Wd)) (w : Wd) (x16 : Int32) (x17 : Int32) : Option (Int32 × Wd) := rc w x16 x17
set_option maxRecDepth 100000 in
set_option maxHeartbeats 4000000 in
theorem sK_X11_readsPairs_54 {X : Cx} {S : Sx} {r : Int32 × Wd} {F : Nat} {x1 : Int32} {x7 : Int32} {k59 : Wd → Int32 → Option (Int32 × Wd)} {rc : Wd → Int32 → Int32 → Option (Int32 × Wd)} {w : Wd} {x16 : Int32} {x17 : Int32} (hX : Ok X S cX11_readsPairs RX11 5 rm_X11_readsPairs) (hR : HRt X S cX11_readsPairs .int r)  (hk59 : ∀ (w : Wd) (x10 : Int32) , k59 w x10 = some r → V X S w 59 [(0, rf S 88), (2, .int x7), (3, .int x10)] []) (hrc : ∀ (w : Wd) (x8 : Int32) (x9 : Int32) , rc w x8 x9 = some r → V X S w 25 [(0, rf S 88), (1, .int x1), (2, .int x7), (3, .int x8), (4, .int x9)] [])  (hP : K_X11_readsPairs_54 F x1 x7 k59 rc w x16 x17 = some r) : V X S w 54 [(0, rf S 88), (1, .int x1), (2, .int x7), (3, .int x16)] [.int x17] := by
  unfold K_X11_readsPairs_54 at hP
  refine V_istore (lv' := [(4, .int x17), (0, rf S 88), (1, .int x1), (2, .int x7), (3, .int x16)]) hX dX11_readsPairs_54 (by decide) rfl ?_
  refine V_goto (tgt := 25) hX dX11_readsPairs_56 (by decide) ?_
  refine V_sub (lv' := [(0, rf S 88), (1, .int x1), (2, .int x7), (3, .int x16), (4, .int x17)]) [1, 2, 3, 4, 0] rfl ?_
  exact hrc _ _ _  hP
def K_X11_readsPairs_53 (F : Nat) (x1 : Int32) (x7 : Int32) (k59 : Wd → Int32 → Option (Int32 × Wd)) (rc : Wd → Int32 → Int32 → Option (Int32 × Wd)) (w : Wd) (x15 : Int32) : Option (Int32 × Wd) := K_X11_readsPairs_54 F x1 x7 k59 rc w x15 0
set_option maxRecDepth 100000 in
set_option maxHeartbeats 4000000 in
theorem sK_X11_readsPairs_53 {X : Cx} {S : Sx} {r : Int32 × Wd} {F : Nat} {x1 : Int32} {x7 : Int32} {k59 : Wd → Int32 → Option (Int32 × Wd)} {rc : Wd → Int32 → Int32 → Option (Int32 × Wd)} {w : Wd} {x15 : Int32} (hX : Ok X S cX11_readsPairs RX11 5 rm_X11_readsPairs) (hR : HRt X S cX11_readsPairs .int r)  (hk59 : ∀ (w : Wd) (x10 : Int32) , k59 w x10 = some r → V X S w 59 [(0, rf S 88), (2, .int x7), (3, .int x10)] []) (hrc : ∀ (w : Wd) (x8 : Int32) (x9 : Int32) , rc w x8 x9 = some r → V X S w 25 [(0, rf S 88), (1, .int x1), (2, .int x7), (3, .int x8), (4, .int x9)] [])  (hP : K_X11_readsPairs_53 F x1 x7 k59 rc w x15 = some r) : V X S w 53 [(0, rf S 88), (1, .int x1), (2, .int x7), (3, .int x15)] [] := by
  unfold K_X11_readsPairs_53 at hP
  refine V_iconst (v := 0) hX dX11_readsPairs_53 (by decide) ?_
  exact sK_X11_readsPairs_54 hX hR  hk59 hrc  hP
def L_X11_readsPairs_25 (F : Nat) (x1 : Int32) (x7 : Int32) (k59 : Wd → Int32 → Option (Int32 × Wd)) : Nat → Wd → Int32 → Int32 → Option (Int32 × Wd)
  | 0, _, _, _ => none
  | n + 1, w, x8, x9 => (if x9 = 0 then k59 w x8 else bnd (P_X11_readsPair F w x1) (fun x13 w12 => (if x13 = 0 then K_X11_readsPairs_53 F x1 x7 k59 ((L_X11_readsPairs_25 F x1 x7 k59 n)) w12 x13 else bnd (P_X11_isNext F w12 59) (fun x19 w18 => lt (if x19 = 0 then 0 else 1 : Int32) (fun x21 => L_X11_readsPairs_25 F x1 x7 k59 n w18 x13 x21)))))
set_option maxRecDepth 100000 in
set_option maxHeartbeats 4000000 in
theorem sL_X11_readsPairs_25 {X : Cx} {S : Sx} {r : Int32 × Wd} {F : Nat} {x1 : Int32} {x7 : Int32} {k59 : Wd → Int32 → Option (Int32 × Wd)} (hX : Ok X S cX11_readsPairs RX11 5 rm_X11_readsPairs) (hR : HRt X S cX11_readsPairs .int r)  (hk59 : ∀ (w : Wd) (x10 : Int32) , k59 w x10 = some r → V X S w 59 [(0, rf S 88), (2, .int x7), (3, .int x10)] []) : ∀ (n : Nat) (w : Wd) (x8 : Int32) (x9 : Int32) , L_X11_readsPairs_25 F x1 x7 k59 n w x8 x9 = some r → V X S w 25 [(0, rf S 88), (1, .int x1), (2, .int x7), (3, .int x8), (4, .int x9)] [] := by
  intro n
  induction n with
  | zero =>
    intro w x8 x9  hP
    exact nn hP
  | succ n ih =>
    intro w x8 x9  hP
    rw [L_X11_readsPairs_25] at hP
    refine V_iload hX dX11_readsPairs_25 4 rfl ?_
    refine V_if_eq (tgt := 59) hX dX11_readsPairs_27 (by decide) (fun hc11 => ?_) (fun hc11 => ?_)
    · replace hP := ite_t hc11 hP
      refine V_sub (lv' := [(0, rf S 88), (2, .int x7), (3, .int x8)]) [0, 2, 3] rfl ?_
      exact hk59 _ _  hP
    · replace hP := ite_f hc11 hP
      refine V_aload_n hX dX11_readsPairs_30 0 rfl ?_
      refine V_iload_n hX dX11_readsPairs_31 1 rfl ?_
      obtain ⟨x13, w12, hcw12, hP⟩ := bnd_e hP
      refine V_callVi (As := [.int x1]) (rest := []) hX mk_X11_179 nk_X11_readsPair (fun l => c_X11_readsPair l S  hcw12) tb_88 rfl ⟨rfl, rfl, Nat.le_of_ble_eq_true rfl, Nat.le_of_ble_eq_true rfl⟩ rfl rfl (Nat.le_of_ble_eq_true rfl) dX11_readsPairs_32 ?_
      refine V_istore_n (lv' := [(3, .int x13), (0, rf S 88), (1, .int x1), (2, .int x7), (4, .int x9)]) hX dX11_readsPairs_35 (by decide) rfl ?_
      refine V_iload_n hX dX11_readsPairs_36 0 rfl ?_
      refine V_if_eq (tgt := 53) hX dX11_readsPairs_37 (by decide) (fun hc14 => ?_) (fun hc14 => ?_)
      · replace hP := ite_t hc14 hP
        refine V_sub (lv' := [(0, rf S 88), (1, .int x1), (2, .int x7), (3, .int x13)]) [1, 2, 3, 0] rfl ?_
        exact sK_X11_readsPairs_53 hX hR  hk59 ih  hP
      · replace hP := ite_f hc14 hP
        refine V_aload_n hX dX11_readsPairs_40 1 rfl ?_
        refine V_bipush (v := 59) hX dX11_readsPairs_41 (by decide) ?_
        obtain ⟨x19, w18, hcw18, hP⟩ := bnd_e hP
        refine V_callVi (As := [.int 59]) (rest := []) hX mk_X11_183 nk_X11_isNext (fun l => c_X11_isNext l S  hcw18) tb_88 rfl ⟨rfl, rfl, Nat.le_of_ble_eq_true rfl, Nat.le_of_ble_eq_true rfl⟩ rfl rfl (Nat.le_of_ble_eq_true rfl) dX11_readsPairs_43 ?_
        have k22 : V X S w18 54 [(3, .int x13), (0, rf S 88), (1, .int x1), (2, .int x7), (4, .int x9)] [.int (if x19 = 0 then 0 else 1)] := by
          refine V_topi (fun x21 ex21 => ?_)
          replace hP := lt_r ex21 hP
          refine V_istore (lv' := [(4, .int x21), (3, .int x13), (0, rf S 88), (1, .int x1), (2, .int x7)]) hX dX11_readsPairs_54 (by decide) rfl ?_
          refine V_goto (tgt := 25) hX dX11_readsPairs_56 (by decide) ?_
          refine V_sub (lv' := [(0, rf S 88), (1, .int x1), (2, .int x7), (3, .int x13), (4, .int x21)]) [2, 3, 4, 1, 0] rfl ?_
          exact ih _ _ _  hP
        refine V_if_eq (tgt := 53) hX dX11_readsPairs_46 (by decide) (fun hc20 => ?_) (fun hc20 => ?_)
        · refine V_iconst (v := 0) hX dX11_readsPairs_53 (by decide) ?_
          refine V_selT (c := x19 = 0) (b := 1) hc20 ?_
          exact k22
        · refine V_iconst (v := 1) hX dX11_readsPairs_49 (by decide) ?_
          refine V_goto (tgt := 54) hX dX11_readsPairs_50 (by decide) ?_
          refine V_selF (c := x19 = 0) (a := 0) hc20 ?_
          exact k22
def P_X11_readsPairs (F : Nat) (w : Wd) (x1 : Int32) : Option (Int32 × Wd) := bnd (P_X11_begins F w 23) (fun x3 w2 => lt (sI w2 88 19 0) (fun w4 => lt (if x3 ≤ 0 then 0 else 1 : Int32) (fun x6 => L_X11_readsPairs_25 F x1 x3 (fun w x10 => bnd (P_X11_faultOf F w x3 23 x10) (fun x24 w23 => some (x24, w23))) F w4 1 x6)))
set_option maxRecDepth 100000 in
set_option maxHeartbeats 4000000 in
theorem s_X11_readsPairs {X : Cx} {S : Sx} {r : Int32 × Wd} {F : Nat} {w : Wd} {x1 : Int32}  (hX : Ok X S cX11_readsPairs RX11 5 rm_X11_readsPairs) (hR : HRt X S cX11_readsPairs .int r) (hP : P_X11_readsPairs F w x1 = some r) : V X S w 0 [(0, rf S 88), (1, .int x1)] [] := by
  unfold P_X11_readsPairs at hP
  refine V_aload_n hX dX11_readsPairs_0 0 rfl ?_
  refine V_bipush (v := 23) hX dX11_readsPairs_1 (by decide) ?_
  obtain ⟨x3, w2, hcw2, hP⟩ := bnd_e hP
  refine V_callVi (As := [.int 23]) (rest := []) hX mk_X11_176 nk_X11_begins (fun l => c_X11_begins l S  hcw2) tb_88 rfl ⟨rfl, rfl, Nat.le_of_ble_eq_true rfl, Nat.le_of_ble_eq_true rfl⟩ rfl rfl (Nat.le_of_ble_eq_true rfl) dX11_readsPairs_3 ?_
  refine V_istore_n (lv' := [(2, .int x3), (0, rf S 88), (1, .int x1)]) hX dX11_readsPairs_6 (by decide) rfl ?_
  refine V_aload_n hX dX11_readsPairs_7 1 rfl ?_
  refine V_iconst (v := 0) hX dX11_readsPairs_8 (by decide) ?_
  refine V_putI hX fw_X11_164 tb_88 (fun _ _ _ => ⟨Nat.le_of_ble_eq_true rfl, rfl⟩) dX11_readsPairs_9 (fun w4 ew4 => ?_)
  replace hP := lt_r ew4 hP
  refine V_iconst (v := 1) hX dX11_readsPairs_12 (by decide) ?_
  refine V_istore_n (lv' := [(3, .int 1), (2, .int x3), (0, rf S 88), (1, .int x1)]) hX dX11_readsPairs_13 (by decide) rfl ?_
  refine V_iload_n hX dX11_readsPairs_14 1 rfl ?_
  have k26 : V X S w4 23 [(3, .int 1), (2, .int x3), (0, rf S 88), (1, .int x1)] [.int (if x3 ≤ 0 then 0 else 1)] := by
    refine V_topi (fun x6 ex6 => ?_)
    replace hP := lt_r ex6 hP
    refine V_istore (lv' := [(4, .int x6), (3, .int 1), (2, .int x3), (0, rf S 88), (1, .int x1)]) hX dX11_readsPairs_23 (by decide) rfl ?_
    refine V_sub (lv' := [(0, rf S 88), (1, .int x1), (2, .int x3), (3, .int 1), (4, .int x6)]) [3, 4, 2, 1, 0] rfl ?_
    have k25 : ∀ (w : Wd) (x10 : Int32) , (bnd (P_X11_faultOf F w x3 23 x10) (fun x24 w23 => some (x24, w23))) = some r → V X S w 59 [(0, rf S 88), (2, .int x3), (3, .int x10)] [] := by
      intro w x10  hP
      refine V_aload_n hX dX11_readsPairs_59 0 rfl ?_
      refine V_iload_n hX dX11_readsPairs_60 1 rfl ?_
      refine V_bipush (v := 23) hX dX11_readsPairs_61 (by decide) ?_
      refine V_iload_n hX dX11_readsPairs_63 2 rfl ?_
      obtain ⟨x24, w23, hcw23, hP⟩ := bnd_e hP
      refine V_callVi (As := [.int x3, .int 23, .int x10]) (rest := []) hX mk_X11_186 nk_X11_faultOf (fun l => c_X11_faultOf l S  hcw23) tb_88 rfl ⟨rfl, rfl, Nat.le_of_ble_eq_true rfl, Nat.le_of_ble_eq_true rfl⟩ rfl rfl (Nat.le_of_ble_eq_true rfl) dX11_readsPairs_64 ?_
      exact hR _ _ _ _ (Option.some.inj hP) rfl dX11_readsPairs_67
    exact sL_X11_readsPairs_25 hX hR  k25 F _ _ _  hP
  refine V_if_le (tgt := 22) hX dX11_readsPairs_15 (by decide) (fun hc5 => ?_) (fun hc5 => ?_)
  · refine V_iconst (v := 0) hX dX11_readsPairs_22 (by decide) ?_
    refine V_selT (c := x3 ≤ 0) (b := 1) hc5 ?_
    exact k26
  · refine V_iconst (v := 1) hX dX11_readsPairs_18 (by decide) ?_
    refine V_goto (tgt := 23) hX dX11_readsPairs_19 (by decide) ?_
    refine V_selF (c := x3 ≤ 0) (a := 0) hc5 ?_
    exact k26
theorem c_X11_readsPairs (l : Launch) (S : Sx) {r : Int32 × Wd} {F : Nat} {w : Wd} {x1 : Int32}  (h : P_X11_readsPairs F w x1 = some r) : Met l yX11_readsPairs (wsg yX11_readsPairs cX11_readsPairs 5 (some .int)) rm_X11_readsPairs (PC S w [rf S 88, .int x1]) (QCi S r) 0 0 (Aw S) :=
  met_i (by decide) rfl (Nat.le_of_ble_eq_true rfl) ⟨rfl, rfl⟩ (fun X hX hR => s_X11_readsPairs  hX hR h)

-- MustNotStopModel.came()I
abbrev rm_X11_came : Room := { frames := 1, cells := 0, slots := 0, locals := 64 }
theorem nk_X11_came : MNk yX11_came RX11 0 := ⟨rfl, by decide, by decide, by decide +kernel⟩
def P_X11_came (F : Nat) (w : Wd)  : Option (Int32 × Wd) := (if (gI w 88 19) ≤ 0 then some (gI w 88 19, w) else lt (sI w 88 26 0) (fun w2 => lt (sI w2 88 5 ((gI w2 88 5) + 1)) (fun w3 => some (gI w3 88 19, w3))))
set_option maxRecDepth 100000 in
set_option maxHeartbeats 4000000 in
theorem s_X11_came {X : Cx} {S : Sx} {r : Int32 × Wd} {F : Nat} {w : Wd}   (hX : Ok X S cX11_came RX11 1 rm_X11_came) (hR : HRt X S cX11_came .int r) (hP : P_X11_came F w  = some r) : V X S w 0 [(0, rf S 88)] [] := by
  unfold P_X11_came at hP
  refine V_aload_n hX dX11_came_0 0 rfl ?_
  refine V_getI hX fk_X11_164 tb_88 (fun _ _ _ => rfl) dX11_came_1 ?_
  refine V_if_le (tgt := 22) hX dX11_came_4 (by decide) (fun hc1 => ?_) (fun hc1 => ?_)
  · replace hP := ite_t hc1 hP
    refine V_aload_n hX dX11_came_22 0 rfl ?_
    refine V_getI hX fk_X11_164 tb_88 (fun _ _ _ => rfl) dX11_came_23 ?_
    exact hR _ _ _ _ (Option.some.inj hP) rfl dX11_came_26
  · replace hP := ite_f hc1 hP
    refine V_aload_n hX dX11_came_7 0 rfl ?_
    refine V_iconst (v := 0) hX dX11_came_8 (by decide) ?_
    refine V_putI hX fw_X11_190 tb_88 (fun _ _ _ => ⟨Nat.le_of_ble_eq_true rfl, rfl⟩) dX11_came_9 (fun w2 ew2 => ?_)
    replace hP := lt_r ew2 hP
    refine V_aload_n hX dX11_came_12 0 rfl ?_
    refine V_dup hX dX11_came_13 rfl ?_
    refine V_getI hX fk_X11_193 tb_88 (fun _ _ _ => rfl) dX11_came_14 ?_
    refine V_iconst (v := 1) hX dX11_came_17 (by decide) ?_
    refine V_iadd hX dX11_came_18 ?_
    refine V_putI hX fw_X11_193 tb_88 (fun _ _ _ => ⟨Nat.le_of_ble_eq_true rfl, rfl⟩) dX11_came_19 (fun w3 ew3 => ?_)
    replace hP := lt_r ew3 hP
    refine V_aload_n hX dX11_came_22 0 rfl ?_
    refine V_getI hX fk_X11_164 tb_88 (fun _ _ _ => rfl) dX11_came_23 ?_
    exact hR _ _ _ _ (Option.some.inj hP) rfl dX11_came_26
theorem c_X11_came (l : Launch) (S : Sx) {r : Int32 × Wd} {F : Nat} {w : Wd}   (h : P_X11_came F w  = some r) : Met l yX11_came (wsg yX11_came cX11_came 1 (some .int)) rm_X11_came (PC S w [rf S 88]) (QCi S r) 0 0 (Aw S) :=
  met_i (by decide) rfl (Nat.le_of_ble_eq_true rfl) ⟨rfl, rfl⟩ (fun X hX hR => s_X11_came  hX hR h)

-- MustNotStopModel.ringers()I
abbrev rm_X11_ringers : Room := { frames := 9, cells := 0, slots := 0, locals := 238 }
theorem nk_X11_ringers : MNk yX11_ringers RX11 0 := ⟨rfl, by decide, by decide, by decide +kernel⟩
def L_X11_ringers_22 (F : Nat)  (k92 : Wd → Option (Int32 × Wd)) : Nat → Wd → Int32 → Option (Int32 × Wd)
  | 0, _, _ => none
  | n + 1, w, x5 => (if (gI w 88 19) ≤ x5 then k92 w  else gd (inB (2 * x5) 16) (gd (inB (gI w 88 3) 8) (lt (sI w 90 (gI w 88 3).toNatClampNeg (gI w 98 (2 * x5).toNatClampNeg)) (fun w9 => gd (inB ((2 * x5) + 1) 16) (gd (inB (gI w9 88 3) 8) (lt (sI w9 91 (gI w9 88 3).toNatClampNeg (gI w9 98 ((2 * x5) + 1).toNatClampNeg)) (fun w12 => gd (inB (gI w12 88 3) 16) (lt (sI w12 95 (gI w12 88 3).toNatClampNeg 0) (fun w14 => lt (sI w14 88 3 ((gI w14 88 3) + 1)) (fun w15 => lt (x5 + 1 : Int32) (fun x16 => L_X11_ringers_22 F  k92 n w15 x16)))))))))))
set_option maxRecDepth 100000 in
set_option maxHeartbeats 4000000 in
theorem sL_X11_ringers_22 {X : Cx} {S : Sx} {r : Int32 × Wd} {F : Nat}  {k92 : Wd → Option (Int32 × Wd)} (hX : Ok X S cX11_ringers RX11 3 rm_X11_ringers) (hR : HRt X S cX11_ringers .int r)  (hk92 : ∀ (w : Wd), k92 w = some r → V X S w 92 [(0, rf S 88)] []) : ∀ (n : Nat) (w : Wd) (x5 : Int32) , L_X11_ringers_22 F  k92 n w x5 = some r → V X S w 22 [(0, rf S 88), (2, .int x5)] [] := by
  intro n
  induction n with
  | zero =>
    intro w x5  hP
    exact nn hP
  | succ n ih =>
    intro w x5  hP
    rw [L_X11_ringers_22] at hP
    refine V_iload_n hX dX11_ringers_22 1 rfl ?_
    refine V_aload_n hX dX11_ringers_23 0 rfl ?_
    refine V_getI hX fk_X11_164 tb_88 (fun _ _ _ => rfl) dX11_ringers_24 ?_
    refine V_icmp_ge (tgt := 92) hX dX11_ringers_27 (by decide) (fun hc6 => ?_) (fun hc6 => ?_)
    · replace hP := ite_t hc6 hP
      refine V_sub (lv' := [(0, rf S 88)]) [0] rfl ?_
      exact hk92 _   hP
    · replace hP := ite_f hc6 hP
      refine V_aload_n hX dX11_ringers_30 0 rfl ?_
      refine V_getF (j := 90) hX fk_X11_13 tb_88 (fun _ _ _ => rfl) dX11_ringers_31 ?_
      refine V_aload_n hX dX11_ringers_34 0 rfl ?_
      refine V_getI hX fk_X11_113 tb_88 (fun _ _ _ => rfl) dX11_ringers_35 ?_
      refine V_aload_n hX dX11_ringers_38 0 rfl ?_
      refine V_getF (j := 98) hX fk_X11_38 tb_88 (fun _ _ _ => rfl) dX11_ringers_39 ?_
      refine V_iconst (v := 2) hX dX11_ringers_42 (by decide) ?_
      refine V_iload_n hX dX11_ringers_43 1 rfl ?_
      refine V_imul hX dX11_ringers_44 ?_
      obtain ⟨hi7, hP⟩ := gd_e hP
      refine V_iald hX tb_98 hi7 dX11_ringers_45 ?_
      obtain ⟨hi8, hP⟩ := gd_e hP
      refine V_iast hX tb_90 hi8 dX11_ringers_46 (fun w9 ew9 => ?_)
      replace hP := lt_r ew9 hP
      refine V_aload_n hX dX11_ringers_47 0 rfl ?_
      refine V_getF (j := 91) hX fk_X11_17 tb_88 (fun _ _ _ => rfl) dX11_ringers_48 ?_
      refine V_aload_n hX dX11_ringers_51 0 rfl ?_
      refine V_getI hX fk_X11_113 tb_88 (fun _ _ _ => rfl) dX11_ringers_52 ?_
      refine V_aload_n hX dX11_ringers_55 0 rfl ?_
      refine V_getF (j := 98) hX fk_X11_38 tb_88 (fun _ _ _ => rfl) dX11_ringers_56 ?_
      refine V_iconst (v := 2) hX dX11_ringers_59 (by decide) ?_
      refine V_iload_n hX dX11_ringers_60 1 rfl ?_
      refine V_imul hX dX11_ringers_61 ?_
      refine V_iconst (v := 1) hX dX11_ringers_62 (by decide) ?_
      refine V_iadd hX dX11_ringers_63 ?_
      obtain ⟨hi10, hP⟩ := gd_e hP
      refine V_iald hX tb_98 hi10 dX11_ringers_64 ?_
      obtain ⟨hi11, hP⟩ := gd_e hP
      refine V_iast hX tb_91 hi11 dX11_ringers_65 (fun w12 ew12 => ?_)
      replace hP := lt_r ew12 hP
      refine V_aload_n hX dX11_ringers_66 0 rfl ?_
      refine V_getF (j := 95) hX fk_X11_29 tb_88 (fun _ _ _ => rfl) dX11_ringers_67 ?_
      refine V_aload_n hX dX11_ringers_70 0 rfl ?_
      refine V_getI hX fk_X11_113 tb_88 (fun _ _ _ => rfl) dX11_ringers_71 ?_
      refine V_iconst (v := 0) hX dX11_ringers_74 (by decide) ?_
      obtain ⟨hi13, hP⟩ := gd_e hP
      refine V_iast hX tb_95 hi13 dX11_ringers_75 (fun w14 ew14 => ?_)
      replace hP := lt_r ew14 hP
      refine V_aload_n hX dX11_ringers_76 0 rfl ?_
      refine V_dup hX dX11_ringers_77 rfl ?_
      refine V_getI hX fk_X11_113 tb_88 (fun _ _ _ => rfl) dX11_ringers_78 ?_
      refine V_iconst (v := 1) hX dX11_ringers_81 (by decide) ?_
      refine V_iadd hX dX11_ringers_82 ?_
      refine V_putI hX fw_X11_113 tb_88 (fun _ _ _ => ⟨Nat.le_of_ble_eq_true rfl, rfl⟩) dX11_ringers_83 (fun w15 ew15 => ?_)
      replace hP := lt_r ew15 hP
      obtain ⟨x16, ex16⟩ : ∃ y : Int32, y = x5 + 1 := ⟨_, rfl⟩
      replace hP := lt_r ex16 hP
      refine V_iinc (v := x16) (lv' := [(2, .int x16), (0, rf S 88)]) hX dX11_ringers_86 (j := 1) rfl (by decide) (by rw [ex16]; rfl) rfl ?_
      refine V_goto (tgt := 22) hX dX11_ringers_89 (by decide) ?_
      refine V_sub (lv' := [(0, rf S 88), (2, .int x16)]) [1, 0] rfl ?_
      exact ih _ _  hP
def P_X11_ringers (F : Nat) (w : Wd)  : Option (Int32 × Wd) := lt (sI w 88 0 0) (fun w1 => bnd (P_X11_readsPairs F w1 (gI w1 88 3)) (fun x3 w2 => (if (0 : Int32) ≤ x3 then L_X11_ringers_22 F  (fun w  => bnd (P_X11_came F w ) (fun x18 w17 => some (x18, w17))) F w2 0 else some (x3, w2))))
set_option maxRecDepth 100000 in
set_option maxHeartbeats 4000000 in
theorem s_X11_ringers {X : Cx} {S : Sx} {r : Int32 × Wd} {F : Nat} {w : Wd}   (hX : Ok X S cX11_ringers RX11 3 rm_X11_ringers) (hR : HRt X S cX11_ringers .int r) (hP : P_X11_ringers F w  = some r) : V X S w 0 [(0, rf S 88)] [] := by
  unfold P_X11_ringers at hP
  refine V_aload_n hX dX11_ringers_0 0 rfl ?_
  refine V_iconst (v := 0) hX dX11_ringers_1 (by decide) ?_
  refine V_putI hX fw_X11_102 tb_88 (fun _ _ _ => ⟨Nat.le_of_ble_eq_true rfl, rfl⟩) dX11_ringers_2 (fun w1 ew1 => ?_)
  replace hP := lt_r ew1 hP
  refine V_aload_n hX dX11_ringers_5 0 rfl ?_
  refine V_aload_n hX dX11_ringers_6 0 rfl ?_
  refine V_getI hX fk_X11_113 tb_88 (fun _ _ _ => rfl) dX11_ringers_7 ?_
  obtain ⟨x3, w2, hcw2, hP⟩ := bnd_e hP
  refine V_callVi (As := [.int (gI w1 88 3)]) (rest := []) hX mk_X11_196 nk_X11_readsPairs (fun l => c_X11_readsPairs l S  hcw2) tb_88 rfl ⟨rfl, rfl, Nat.le_of_ble_eq_true rfl, Nat.le_of_ble_eq_true rfl⟩ rfl rfl (Nat.le_of_ble_eq_true rfl) dX11_ringers_10 ?_
  refine V_istore_n (lv' := [(1, .int x3), (0, rf S 88)]) hX dX11_ringers_13 (by decide) rfl ?_
  refine V_iload_n hX dX11_ringers_14 0 rfl ?_
  refine V_if_ge (tgt := 20) hX dX11_ringers_15 (by decide) (fun hc4 => ?_) (fun hc4 => ?_)
  · replace hP := ite_t hc4 hP
    refine V_iconst (v := 0) hX dX11_ringers_20 (by decide) ?_
    refine V_istore_n (lv' := [(2, .int 0), (1, .int x3), (0, rf S 88)]) hX dX11_ringers_21 (by decide) rfl ?_
    refine V_sub (lv' := [(0, rf S 88), (2, .int 0)]) [2, 0] rfl ?_
    have k19 : ∀ (w : Wd)  , (bnd (P_X11_came F w ) (fun x18 w17 => some (x18, w17))) = some r → V X S w 92 [(0, rf S 88)] [] := by
      intro w   hP
      refine V_aload_n hX dX11_ringers_92 0 rfl ?_
      obtain ⟨x18, w17, hcw17, hP⟩ := bnd_e hP
      refine V_callVi (As := []) (rest := []) hX mk_X11_199 nk_X11_came (fun l => c_X11_came l S  hcw17) tb_88 rfl ⟨rfl, rfl, Nat.le_of_ble_eq_true rfl, Nat.le_of_ble_eq_true rfl⟩ rfl rfl (Nat.le_of_ble_eq_true rfl) dX11_ringers_93 ?_
      exact hR _ _ _ _ (Option.some.inj hP) rfl dX11_ringers_96
    exact sL_X11_ringers_22 hX hR  k19 F _ _  hP
  · replace hP := ite_f hc4 hP
    refine V_iload_n hX dX11_ringers_18 0 rfl ?_
    exact hR _ _ _ _ (Option.some.inj hP) rfl dX11_ringers_19
theorem c_X11_ringers (l : Launch) (S : Sx) {r : Int32 × Wd} {F : Nat} {w : Wd}   (h : P_X11_ringers F w  = some r) : Met l yX11_ringers (wsg yX11_ringers cX11_ringers 3 (some .int)) rm_X11_ringers (PC S w [rf S 88]) (QCi S r) 0 0 (Aw S) :=
  met_i (by decide) rfl (Nat.le_of_ble_eq_true rfl) ⟨rfl, rfl⟩ (fun X hX hR => s_X11_ringers  hX hR h)

-- MustNotStopModel.town()I
abbrev rm_X11_town : Room := { frames := 9, cells := 0, slots := 0, locals := 238 }
theorem nk_X11_town : MNk yX11_town RX11 0 := ⟨rfl, by decide, by decide, by decide +kernel⟩
def L_X11_town_22 (F : Nat)  (k82 : Wd → Option (Int32 × Wd)) : Nat → Wd → Int32 → Option (Int32 × Wd)
  | 0, _, _ => none
  | n + 1, w, x5 => (if (gI w 88 19) ≤ x5 then k82 w  else gd (inB (2 * x5) 16) (gd (inB (gI w 88 4) 8) (lt (sI w 92 (gI w 88 4).toNatClampNeg (gI w 98 (2 * x5).toNatClampNeg)) (fun w9 => gd (inB ((2 * x5) + 1) 16) (gd (inB (gI w9 88 4) 8) (lt (sI w9 93 (gI w9 88 4).toNatClampNeg (gI w9 98 ((2 * x5) + 1).toNatClampNeg)) (fun w12 => lt (sI w12 88 4 ((gI w12 88 4) + 1)) (fun w13 => lt (x5 + 1 : Int32) (fun x14 => L_X11_town_22 F  k82 n w13 x14)))))))))
set_option maxRecDepth 100000 in
set_option maxHeartbeats 4000000 in
theorem sL_X11_town_22 {X : Cx} {S : Sx} {r : Int32 × Wd} {F : Nat}  {k82 : Wd → Option (Int32 × Wd)} (hX : Ok X S cX11_town RX11 3 rm_X11_town) (hR : HRt X S cX11_town .int r)  (hk82 : ∀ (w : Wd), k82 w = some r → V X S w 82 [(0, rf S 88)] []) : ∀ (n : Nat) (w : Wd) (x5 : Int32) , L_X11_town_22 F  k82 n w x5 = some r → V X S w 22 [(0, rf S 88), (2, .int x5)] [] := by
  intro n
  induction n with
  | zero =>
    intro w x5  hP
    exact nn hP
  | succ n ih =>
    intro w x5  hP
    rw [L_X11_town_22] at hP
    refine V_iload_n hX dX11_town_22 1 rfl ?_
    refine V_aload_n hX dX11_town_23 0 rfl ?_
    refine V_getI hX fk_X11_164 tb_88 (fun _ _ _ => rfl) dX11_town_24 ?_
    refine V_icmp_ge (tgt := 82) hX dX11_town_27 (by decide) (fun hc6 => ?_) (fun hc6 => ?_)
    · replace hP := ite_t hc6 hP
      refine V_sub (lv' := [(0, rf S 88)]) [0] rfl ?_
      exact hk82 _   hP
    · replace hP := ite_f hc6 hP
      refine V_aload_n hX dX11_town_30 0 rfl ?_
      refine V_getF (j := 92) hX fk_X11_20 tb_88 (fun _ _ _ => rfl) dX11_town_31 ?_
      refine V_aload_n hX dX11_town_34 0 rfl ?_
      refine V_getI hX fk_X11_202 tb_88 (fun _ _ _ => rfl) dX11_town_35 ?_
      refine V_aload_n hX dX11_town_38 0 rfl ?_
      refine V_getF (j := 98) hX fk_X11_38 tb_88 (fun _ _ _ => rfl) dX11_town_39 ?_
      refine V_iconst (v := 2) hX dX11_town_42 (by decide) ?_
      refine V_iload_n hX dX11_town_43 1 rfl ?_
      refine V_imul hX dX11_town_44 ?_
      obtain ⟨hi7, hP⟩ := gd_e hP
      refine V_iald hX tb_98 hi7 dX11_town_45 ?_
      obtain ⟨hi8, hP⟩ := gd_e hP
      refine V_iast hX tb_92 hi8 dX11_town_46 (fun w9 ew9 => ?_)
      replace hP := lt_r ew9 hP
      refine V_aload_n hX dX11_town_47 0 rfl ?_
      refine V_getF (j := 93) hX fk_X11_23 tb_88 (fun _ _ _ => rfl) dX11_town_48 ?_
      refine V_aload_n hX dX11_town_51 0 rfl ?_
      refine V_getI hX fk_X11_202 tb_88 (fun _ _ _ => rfl) dX11_town_52 ?_
      refine V_aload_n hX dX11_town_55 0 rfl ?_
      refine V_getF (j := 98) hX fk_X11_38 tb_88 (fun _ _ _ => rfl) dX11_town_56 ?_
      refine V_iconst (v := 2) hX dX11_town_59 (by decide) ?_
      refine V_iload_n hX dX11_town_60 1 rfl ?_
      refine V_imul hX dX11_town_61 ?_
      refine V_iconst (v := 1) hX dX11_town_62 (by decide) ?_
      refine V_iadd hX dX11_town_63 ?_
      obtain ⟨hi10, hP⟩ := gd_e hP
      refine V_iald hX tb_98 hi10 dX11_town_64 ?_
      obtain ⟨hi11, hP⟩ := gd_e hP
      refine V_iast hX tb_93 hi11 dX11_town_65 (fun w12 ew12 => ?_)
      replace hP := lt_r ew12 hP
      refine V_aload_n hX dX11_town_66 0 rfl ?_
      refine V_dup hX dX11_town_67 rfl ?_
      refine V_getI hX fk_X11_202 tb_88 (fun _ _ _ => rfl) dX11_town_68 ?_
      refine V_iconst (v := 1) hX dX11_town_71 (by decide) ?_
      refine V_iadd hX dX11_town_72 ?_
      refine V_putI hX fw_X11_202 tb_88 (fun _ _ _ => ⟨Nat.le_of_ble_eq_true rfl, rfl⟩) dX11_town_73 (fun w13 ew13 => ?_)
      replace hP := lt_r ew13 hP
      obtain ⟨x14, ex14⟩ : ∃ y : Int32, y = x5 + 1 := ⟨_, rfl⟩
      replace hP := lt_r ex14 hP
      refine V_iinc (v := x14) (lv' := [(2, .int x14), (0, rf S 88)]) hX dX11_town_76 (j := 1) rfl (by decide) (by rw [ex14]; rfl) rfl ?_
      refine V_goto (tgt := 22) hX dX11_town_79 (by decide) ?_
      refine V_sub (lv' := [(0, rf S 88), (2, .int x14)]) [1, 0] rfl ?_
      exact ih _ _  hP
def P_X11_town (F : Nat) (w : Wd)  : Option (Int32 × Wd) := lt (sI w 88 0 0) (fun w1 => bnd (P_X11_readsPairs F w1 (gI w1 88 4)) (fun x3 w2 => (if (0 : Int32) ≤ x3 then L_X11_town_22 F  (fun w  => bnd (P_X11_came F w ) (fun x16 w15 => some (x16, w15))) F w2 0 else some (x3, w2))))
set_option maxRecDepth 100000 in
set_option maxHeartbeats 4000000 in
theorem s_X11_town {X : Cx} {S : Sx} {r : Int32 × Wd} {F : Nat} {w : Wd}   (hX : Ok X S cX11_town RX11 3 rm_X11_town) (hR : HRt X S cX11_town .int r) (hP : P_X11_town F w  = some r) : V X S w 0 [(0, rf S 88)] [] := by
  unfold P_X11_town at hP
  refine V_aload_n hX dX11_town_0 0 rfl ?_
  refine V_iconst (v := 0) hX dX11_town_1 (by decide) ?_
  refine V_putI hX fw_X11_102 tb_88 (fun _ _ _ => ⟨Nat.le_of_ble_eq_true rfl, rfl⟩) dX11_town_2 (fun w1 ew1 => ?_)
  replace hP := lt_r ew1 hP
  refine V_aload_n hX dX11_town_5 0 rfl ?_
  refine V_aload_n hX dX11_town_6 0 rfl ?_
  refine V_getI hX fk_X11_202 tb_88 (fun _ _ _ => rfl) dX11_town_7 ?_
  obtain ⟨x3, w2, hcw2, hP⟩ := bnd_e hP
  refine V_callVi (As := [.int (gI w1 88 4)]) (rest := []) hX mk_X11_196 nk_X11_readsPairs (fun l => c_X11_readsPairs l S  hcw2) tb_88 rfl ⟨rfl, rfl, Nat.le_of_ble_eq_true rfl, Nat.le_of_ble_eq_true rfl⟩ rfl rfl (Nat.le_of_ble_eq_true rfl) dX11_town_10 ?_
  refine V_istore_n (lv' := [(1, .int x3), (0, rf S 88)]) hX dX11_town_13 (by decide) rfl ?_
  refine V_iload_n hX dX11_town_14 0 rfl ?_
  refine V_if_ge (tgt := 20) hX dX11_town_15 (by decide) (fun hc4 => ?_) (fun hc4 => ?_)
  · replace hP := ite_t hc4 hP
    refine V_iconst (v := 0) hX dX11_town_20 (by decide) ?_
    refine V_istore_n (lv' := [(2, .int 0), (1, .int x3), (0, rf S 88)]) hX dX11_town_21 (by decide) rfl ?_
    refine V_sub (lv' := [(0, rf S 88), (2, .int 0)]) [2, 0] rfl ?_
    have k17 : ∀ (w : Wd)  , (bnd (P_X11_came F w ) (fun x16 w15 => some (x16, w15))) = some r → V X S w 82 [(0, rf S 88)] [] := by
      intro w   hP
      refine V_aload_n hX dX11_town_82 0 rfl ?_
      obtain ⟨x16, w15, hcw15, hP⟩ := bnd_e hP
      refine V_callVi (As := []) (rest := []) hX mk_X11_199 nk_X11_came (fun l => c_X11_came l S  hcw15) tb_88 rfl ⟨rfl, rfl, Nat.le_of_ble_eq_true rfl, Nat.le_of_ble_eq_true rfl⟩ rfl rfl (Nat.le_of_ble_eq_true rfl) dX11_town_83 ?_
      exact hR _ _ _ _ (Option.some.inj hP) rfl dX11_town_86
    exact sL_X11_town_22 hX hR  k17 F _ _  hP
  · replace hP := ite_f hc4 hP
    refine V_iload_n hX dX11_town_18 0 rfl ?_
    exact hR _ _ _ _ (Option.some.inj hP) rfl dX11_town_19
theorem c_X11_town (l : Launch) (S : Sx) {r : Int32 × Wd} {F : Nat} {w : Wd}   (h : P_X11_town F w  = some r) : Met l yX11_town (wsg yX11_town cX11_town 3 (some .int)) rm_X11_town (PC S w [rf S 88]) (QCi S r) 0 0 (Aw S) :=
  met_i (by decide) rfl (Nat.le_of_ble_eq_true rfl) ⟨rfl, rfl⟩ (fun X hX hR => s_X11_town  hX hR h)

-- MustNotStopModel.codes(I)V
abbrev rm_X11_codes : Room := { frames := 1, cells := 0, slots := 0, locals := 64 }
theorem nk_X11_codes : MNk yX11_codes RX11 1 := ⟨rfl, by decide, by decide, by decide +kernel⟩
def P_X11_codes (F : Nat) (w : Wd) (x1 : Int32) : Option (Wd) := gd (inB (gI w 88 23) 80) (lt (sI w 100 (gI w 88 23).toNatClampNeg x1) (fun w3 => lt (sI w3 88 23 ((gI w3 88 23) + 1)) (fun w4 => some w4)))
set_option maxRecDepth 100000 in
set_option maxHeartbeats 4000000 in
theorem s_X11_codes {X : Cx} {S : Sx} {r : Wd} {F : Nat} {w : Wd} {x1 : Int32}  (hX : Ok X S cX11_codes RX11 2 rm_X11_codes) (hR : HRv X S cX11_codes r) (hP : P_X11_codes F w x1 = some r) : V X S w 0 [(0, rf S 88), (1, .int x1)] [] := by
  unfold P_X11_codes at hP
  refine V_aload_n hX dX11_codes_0 0 rfl ?_
  refine V_getF (j := 100) hX fk_X11_44 tb_88 (fun _ _ _ => rfl) dX11_codes_1 ?_
  refine V_aload_n hX dX11_codes_4 0 rfl ?_
  refine V_getI hX fk_X11_205 tb_88 (fun _ _ _ => rfl) dX11_codes_5 ?_
  refine V_iload_n hX dX11_codes_8 1 rfl ?_
  obtain ⟨hi2, hP⟩ := gd_e hP
  refine V_iast hX tb_100 hi2 dX11_codes_9 (fun w3 ew3 => ?_)
  replace hP := lt_r ew3 hP
  refine V_aload_n hX dX11_codes_10 0 rfl ?_
  refine V_dup hX dX11_codes_11 rfl ?_
  refine V_getI hX fk_X11_205 tb_88 (fun _ _ _ => rfl) dX11_codes_12 ?_
  refine V_iconst (v := 1) hX dX11_codes_15 (by decide) ?_
  refine V_iadd hX dX11_codes_16 ?_
  refine V_putI hX fw_X11_205 tb_88 (fun _ _ _ => ⟨Nat.le_of_ble_eq_true rfl, rfl⟩) dX11_codes_17 (fun w4 ew4 => ?_)
  replace hP := lt_r ew4 hP
  exact hR _ _ _ (Option.some.inj hP) dX11_codes_20
theorem c_X11_codes (l : Launch) (S : Sx) {r : Wd} {F : Nat} {w : Wd} {x1 : Int32}  (h : P_X11_codes F w x1 = some r) : Met l yX11_codes (wsg yX11_codes cX11_codes 2 none) rm_X11_codes (PC S w [rf S 88, .int x1]) (QCv S r) 0 0 (Aw S) :=
  met_v (by decide) rfl (Nat.le_of_ble_eq_true rfl) ⟨rfl, rfl⟩ (fun X hX hR => s_X11_codes  hX hR h)

-- MustNotStopModel.readsThing()Z
theorem nk_X11_readsThing : MNk yX11_readsThing RX11 0 := ⟨rfl, by decide, by decide, by decide +kernel⟩
-- MustNotStopModel.readsRank(I)Z
theorem nk_X11_readsRank : MNk yX11_readsRank RX11 1 := ⟨rfl, by decide, by decide, by decide +kernel⟩
def B_X11_readsThing (F : Nat) (g_X11_readsThing : Wd → Option (Int32 × Wd)) (g_X11_readsRank : Wd → Int32 → Option (Int32 × Wd)) (w : Wd)  : Option (Int32 × Wd) := bnd (P_X11_isNext F w 45) (fun x2 w1 => (if x2 = 0 then bnd (P_X11_isDigit F w1 ) (fun x5 w4 => (if x5 = 0 then bnd (P_X11_takesOf F w4 0) (fun x8 w7 => (if x8 < 0 then (if (gI w7 88 17) = 4 then some (0, w7) else bnd (P_X11_isNext F w7 40) (fun x12 w11 => (if x12 = 0 then some (0, w11) else lt (sI w11 88 17 ((gI w11 88 17) + 1)) (fun w14 => bnd (g_X11_readsRank w14 0) (fun x16 w15 => (if x16 = 0 then some (0, w15) else bnd (P_X11_isNext F w15 41) (fun x19 w18 => (if x19 = 0 then some (0, w18) else lt (sI w18 88 17 ((gI w18 88 17) - 1)) (fun w21 => some (1, w21)))))))))) else bnv (P_X11_codes F w7 (1000 + x8)) (fun w22 => some (1, w22)))) else bnd (P_X11_number F w4 3) (fun x24 w23 => bnv (P_X11_codes F w23 x24) (fun w25 => some (1, w25))))) else bnd (g_X11_readsThing w1 ) (fun x27 w26 => bnv (P_X11_codes F w26 3000) (fun w28 => gd (isZO x27) (some (x27, w28))))))
set_option maxRecDepth 100000 in
set_option maxHeartbeats 4000000 in
theorem s_X11_readsThing {X : Cx} {S : Sx} {rm rmc : Room} {r : Int32 × Wd} {F : Nat} {g_X11_readsThing : Wd → Option (Int32 × Wd)} {g_X11_readsRank : Wd → Int32 → Option (Int32 × Wd)} {w : Wd}   (hX : Ok X S cX11_readsThing RX11 2 rm) (hR : HRt X S cX11_readsThing .boolean r ∧ RMr rm rmc) (hg_X11_readsThing : ∀ (l : Launch) (w : Wd)  (r : Int32 × Wd) , g_X11_readsThing w  = some r → Met l yX11_readsThing (wsg yX11_readsThing cX11_readsThing 2 (some .boolean)) rmc (PC S w [rf S 88]) (QCi S r) 0 0 (Aw S)) (hg_X11_readsRank : ∀ (l : Launch) (w : Wd) (x1 : Int32) (r : Int32 × Wd) , g_X11_readsRank w x1 = some r → Met l yX11_readsRank (wsg yX11_readsRank cX11_readsRank 4 (some .boolean)) rmc (PC S w [rf S 88, .int x1]) (QCi S r) 0 0 (Aw S)) (hP : B_X11_readsThing F g_X11_readsThing g_X11_readsRank w  = some r) : V X S w 0 [(0, rf S 88)] [] := by
  unfold B_X11_readsThing at hP
  refine V_aload_n hX dX11_readsThing_0 0 rfl ?_
  refine V_bipush (v := 45) hX dX11_readsThing_1 (by decide) ?_
  obtain ⟨x2, w1, hcw1, hP⟩ := bnd_e hP
  refine V_callVi (As := [.int 45]) (rest := []) hX mk_X11_183 nk_X11_isNext (fun l => c_X11_isNext l S  hcw1) tb_88 rfl (rm_call hR.2 rfl rfl (Nat.le_of_ble_eq_true rfl) (Nat.le_of_ble_eq_true rfl)) rfl rfl (Nat.le_of_ble_eq_true rfl) dX11_readsThing_3 ?_
  refine V_if_eq (tgt := 23) hX dX11_readsThing_6 (by decide) (fun hc3 => ?_) (fun hc3 => ?_)
  · replace hP := ite_t hc3 hP
    refine V_aload_n hX dX11_readsThing_23 0 rfl ?_
    obtain ⟨x5, w4, hcw4, hP⟩ := bnd_e hP
    refine V_callVi (As := []) (rest := []) hX mk_X11_160 nk_X11_isDigit (fun l => c_X11_isDigit l S  hcw4) tb_88 rfl (rm_call hR.2 rfl rfl (Nat.le_of_ble_eq_true rfl) (Nat.le_of_ble_eq_true rfl)) rfl rfl (Nat.le_of_ble_eq_true rfl) dX11_readsThing_24 ?_
    refine V_if_eq (tgt := 41) hX dX11_readsThing_27 (by decide) (fun hc6 => ?_) (fun hc6 => ?_)
    · replace hP := ite_t hc6 hP
      refine V_aload_n hX dX11_readsThing_41 0 rfl ?_
      refine V_ldcS (k := 0) (tx := "stnwfrm") hX dX11_readsThing_42 (fun s h => h.2.2.2.1.2.2.1) ?_
      obtain ⟨x8, w7, hcw7, hP⟩ := bnd_e hP
      refine V_callVi (As := [.ref (adK S 0)]) (rest := []) hX mk_X11_169 nk_X11_takesOf (fun l => c_X11_takesOf l S (by decide) hcw7) tb_88 rfl (rm_call hR.2 rfl rfl (Nat.le_of_ble_eq_true rfl) (Nat.le_of_ble_eq_true rfl)) rfl rfl (Nat.le_of_ble_eq_true rfl) dX11_readsThing_44 ?_
      refine V_istore_n (lv' := [(1, .int x8), (0, rf S 88)]) hX dX11_readsThing_47 (by decide) rfl ?_
      refine V_iload_n hX dX11_readsThing_48 0 rfl ?_
      refine V_if_lt (tgt := 63) hX dX11_readsThing_49 (by decide) (fun hc9 => ?_) (fun hc9 => ?_)
      · replace hP := ite_t hc9 hP
        refine V_aload_n hX dX11_readsThing_63 1 rfl ?_
        refine V_getI hX fk_X11_126 tb_88 (fun _ _ _ => rfl) dX11_readsThing_64 ?_
        refine V_iconst (v := 4) hX dX11_readsThing_67 (by decide) ?_
        refine V_icmp_eq (tgt := 80) hX dX11_readsThing_68 (by decide) (fun hc10 => ?_) (fun hc10 => ?_)
        · replace hP := ite_t hc10 hP
          refine V_iconst (v := 0) hX dX11_readsThing_80 (by decide) ?_
          exact hR.1 _ _ _ _ (Option.some.inj hP) rfl dX11_readsThing_81
        · replace hP := ite_f hc10 hP
          refine V_aload_n hX dX11_readsThing_71 1 rfl ?_
          refine V_bipush (v := 40) hX dX11_readsThing_72 (by decide) ?_
          obtain ⟨x12, w11, hcw11, hP⟩ := bnd_e hP
          refine V_callVi (As := [.int 40]) (rest := []) hX mk_X11_183 nk_X11_isNext (fun l => c_X11_isNext l S  hcw11) tb_88 rfl (rm_call hR.2 rfl rfl (Nat.le_of_ble_eq_true rfl) (Nat.le_of_ble_eq_true rfl)) rfl rfl (Nat.le_of_ble_eq_true rfl) dX11_readsThing_74 ?_
          refine V_if_ne (tgt := 82) hX dX11_readsThing_77 (by decide) (fun hc13 => ?_) (fun hc13 => ?_)
          · replace hP := ite_f hc13 hP
            refine V_aload_n hX dX11_readsThing_82 1 rfl ?_
            refine V_dup hX dX11_readsThing_83 rfl ?_
            refine V_getI hX fk_X11_126 tb_88 (fun _ _ _ => rfl) dX11_readsThing_84 ?_
            refine V_iconst (v := 1) hX dX11_readsThing_87 (by decide) ?_
            refine V_iadd hX dX11_readsThing_88 ?_
            refine V_putI hX fw_X11_126 tb_88 (fun _ _ _ => ⟨Nat.le_of_ble_eq_true rfl, rfl⟩) dX11_readsThing_89 (fun w14 ew14 => ?_)
            replace hP := lt_r ew14 hP
            refine V_aload_n hX dX11_readsThing_92 1 rfl ?_
            refine V_iconst (v := 0) hX dX11_readsThing_93 (by decide) ?_
            obtain ⟨x16, w15, hcw15, hP⟩ := bnd_e hP
            refine V_callVi (As := [.int 0]) (rest := []) hX mk_X11_217 nk_X11_readsRank (fun l => hg_X11_readsRank l _ _ _  hcw15) tb_88 rfl (rm_rec hR.2 (Nat.le_of_ble_eq_true rfl)) rfl rfl (Nat.le_of_ble_eq_true rfl) dX11_readsThing_94 ?_
            refine V_if_eq (tgt := 109) hX dX11_readsThing_97 (by decide) (fun hc17 => ?_) (fun hc17 => ?_)
            · replace hP := ite_t hc17 hP
              refine V_iconst (v := 0) hX dX11_readsThing_109 (by decide) ?_
              exact hR.1 _ _ _ _ (Option.some.inj hP) rfl dX11_readsThing_110
            · replace hP := ite_f hc17 hP
              refine V_aload_n hX dX11_readsThing_100 1 rfl ?_
              refine V_bipush (v := 41) hX dX11_readsThing_101 (by decide) ?_
              obtain ⟨x19, w18, hcw18, hP⟩ := bnd_e hP
              refine V_callVi (As := [.int 41]) (rest := []) hX mk_X11_183 nk_X11_isNext (fun l => c_X11_isNext l S  hcw18) tb_88 rfl (rm_call hR.2 rfl rfl (Nat.le_of_ble_eq_true rfl) (Nat.le_of_ble_eq_true rfl)) rfl rfl (Nat.le_of_ble_eq_true rfl) dX11_readsThing_103 ?_
              refine V_if_ne (tgt := 111) hX dX11_readsThing_106 (by decide) (fun hc20 => ?_) (fun hc20 => ?_)
              · replace hP := ite_f hc20 hP
                refine V_aload_n hX dX11_readsThing_111 1 rfl ?_
                refine V_dup hX dX11_readsThing_112 rfl ?_
                refine V_getI hX fk_X11_126 tb_88 (fun _ _ _ => rfl) dX11_readsThing_113 ?_
                refine V_iconst (v := 1) hX dX11_readsThing_116 (by decide) ?_
                refine V_isub hX dX11_readsThing_117 ?_
                refine V_putI hX fw_X11_126 tb_88 (fun _ _ _ => ⟨Nat.le_of_ble_eq_true rfl, rfl⟩) dX11_readsThing_118 (fun w21 ew21 => ?_)
                replace hP := lt_r ew21 hP
                refine V_iconst (v := 1) hX dX11_readsThing_121 (by decide) ?_
                exact hR.1 _ _ _ _ (Option.some.inj hP) rfl dX11_readsThing_122
              · replace hP := ite_t hc20 hP
                refine V_iconst (v := 0) hX dX11_readsThing_109 (by decide) ?_
                exact hR.1 _ _ _ _ (Option.some.inj hP) rfl dX11_readsThing_110
          · replace hP := ite_t hc13 hP
            refine V_iconst (v := 0) hX dX11_readsThing_80 (by decide) ?_
            exact hR.1 _ _ _ _ (Option.some.inj hP) rfl dX11_readsThing_81
      · replace hP := ite_f hc9 hP
        refine V_aload_n hX dX11_readsThing_52 1 rfl ?_
        refine V_sipush (v := 1000) hX dX11_readsThing_53 (by decide) ?_
        refine V_iload_n hX dX11_readsThing_56 0 rfl ?_
        refine V_iadd hX dX11_readsThing_57 ?_
        obtain ⟨w22, hcw22, hP⟩ := bnv_e hP
        refine V_callVv (As := [.int (1000 + x8)]) (rest := []) hX mk_X11_211 nk_X11_codes (fun l => c_X11_codes l S  hcw22) tb_88 rfl (rm_call hR.2 rfl rfl (Nat.le_of_ble_eq_true rfl) (Nat.le_of_ble_eq_true rfl)) rfl rfl (Nat.le_of_ble_eq_true rfl) dX11_readsThing_58 ?_
        refine V_iconst (v := 1) hX dX11_readsThing_61 (by decide) ?_
        exact hR.1 _ _ _ _ (Option.some.inj hP) rfl dX11_readsThing_62
    · replace hP := ite_f hc6 hP
      refine V_aload_n hX dX11_readsThing_30 0 rfl ?_
      refine V_aload_n hX dX11_readsThing_31 0 rfl ?_
      refine V_iconst (v := 3) hX dX11_readsThing_32 (by decide) ?_
      obtain ⟨x24, w23, hcw23, hP⟩ := bnd_e hP
      refine V_callVi (As := [.int 3]) (rest := [rf S 88]) hX mk_X11_172 nk_X11_number (fun l => c_X11_number l S  hcw23) tb_88 rfl (rm_call hR.2 rfl rfl (Nat.le_of_ble_eq_true rfl) (Nat.le_of_ble_eq_true rfl)) rfl rfl (Nat.le_of_ble_eq_true rfl) dX11_readsThing_33 ?_
      obtain ⟨w25, hcw25, hP⟩ := bnv_e hP
      refine V_callVv (As := [.int x24]) (rest := []) hX mk_X11_211 nk_X11_codes (fun l => c_X11_codes l S  hcw25) tb_88 rfl (rm_call hR.2 rfl rfl (Nat.le_of_ble_eq_true rfl) (Nat.le_of_ble_eq_true rfl)) rfl rfl (Nat.le_of_ble_eq_true rfl) dX11_readsThing_36 ?_
      refine V_iconst (v := 1) hX dX11_readsThing_39 (by decide) ?_
      exact hR.1 _ _ _ _ (Option.some.inj hP) rfl dX11_readsThing_40
  · replace hP := ite_f hc3 hP
    refine V_aload_n hX dX11_readsThing_9 0 rfl ?_
    obtain ⟨x27, w26, hcw26, hP⟩ := bnd_e hP
    refine V_callVi (As := []) (rest := []) hX mk_X11_208 nk_X11_readsThing (fun l => hg_X11_readsThing l _  _  hcw26) tb_88 rfl (rm_rec hR.2 (Nat.le_of_ble_eq_true rfl)) rfl rfl (Nat.le_of_ble_eq_true rfl) dX11_readsThing_10 ?_
    refine V_istore_n (lv' := [(1, .int x27), (0, rf S 88)]) hX dX11_readsThing_13 (by decide) rfl ?_
    refine V_aload_n hX dX11_readsThing_14 1 rfl ?_
    refine V_sipush (v := 3000) hX dX11_readsThing_15 (by decide) ?_
    obtain ⟨w28, hcw28, hP⟩ := bnv_e hP
    refine V_callVv (As := [.int 3000]) (rest := []) hX mk_X11_211 nk_X11_codes (fun l => c_X11_codes l S  hcw28) tb_88 rfl (rm_call hR.2 rfl rfl (Nat.le_of_ble_eq_true rfl) (Nat.le_of_ble_eq_true rfl)) rfl rfl (Nat.le_of_ble_eq_true rfl) dX11_readsThing_18 ?_
    refine V_iload_n hX dX11_readsThing_21 0 rfl ?_
    obtain ⟨hz29, hP⟩ := gd_e hP
    exact hR.1 _ _ _ _ (Option.some.inj hP) (nar_z hz29) dX11_readsThing_22
def K_X11_readsRank_50 (F : Nat) (x1 : Int32) (g_X11_readsThing : Wd → Option (Int32 × Wd)) (g_X11_readsRank : Wd → Int32 → Option (Int32 × Wd)) (k113 : Wd → Option (Int32 × Wd)) (rc : Wd → Int32 → Option (Int32 × Wd)) (w : Wd) (a10 : Nat) : Option (Int32 × Wd) := bnd (P_X11_takesOf F w a10) (fun x12 w11 => (if (0 : Int32) ≤ x12 then bnd (g_X11_readsRank w11 (x1 + 1)) (fun x15 w14 => (if x15 = 0 then some (0, w14) else lt (if x1 = 0 then 0 else if x1 = 1 then 3 else 5 : Int32) (fun x19 => bnv (P_X11_codes F w14 ((2000 + x12) + x19)) (fun w20 => lt (if x1 ≤ 0 then 0 else 1 : Int32) (fun x22 => rc w20 x22))))) else some (1, w11)))
set_option maxRecDepth 100000 in
set_option maxHeartbeats 4000000 in
theorem sK_X11_readsRank_50 {X : Cx} {S : Sx} {rm rmc : Room} {r : Int32 × Wd} {F : Nat} {x1 : Int32} {g_X11_readsThing : Wd → Option (Int32 × Wd)} {g_X11_readsRank : Wd → Int32 → Option (Int32 × Wd)} {k113 : Wd → Option (Int32 × Wd)} {rc : Wd → Int32 → Option (Int32 × Wd)} {w : Wd} {a10 : Nat} (hX : Ok X S cX11_readsRank RX11 4 rm) (hR : HRt X S cX11_readsRank .boolean r ∧ RMr rm rmc)  (hg_X11_readsThing : ∀ (l : Launch) (w : Wd)  (r : Int32 × Wd) , g_X11_readsThing w  = some r → Met l yX11_readsThing (wsg yX11_readsThing cX11_readsThing 2 (some .boolean)) rmc (PC S w [rf S 88]) (QCi S r) 0 0 (Aw S)) (hg_X11_readsRank : ∀ (l : Launch) (w : Wd) (x1 : Int32) (r : Int32 × Wd) , g_X11_readsRank w x1 = some r → Met l yX11_readsRank (wsg yX11_readsRank cX11_readsRank 4 (some .boolean)) rmc (PC S w [rf S 88, .int x1]) (QCi S r) 0 0 (Aw S)) (hk113 : ∀ (w : Wd), k113 w = some r → V X S w 113 [] []) (hrc : ∀ (w : Wd) (x6 : Int32) , rc w x6 = some r → V X S w 24 [(0, rf S 88), (1, .int x1), (2, .int x6)] []) (ha10 : isStr a10 = true) (hP : K_X11_readsRank_50 F x1 g_X11_readsThing g_X11_readsRank k113 rc w a10 = some r) : V X S w 50 [(0, rf S 88), (1, .int x1)] [.ref (adK S a10), rf S 88] := by
  unfold K_X11_readsRank_50 at hP
  obtain ⟨x12, w11, hcw11, hP⟩ := bnd_e hP
  refine V_callVi (As := [.ref (adK S a10)]) (rest := []) hX mk_X11_169 nk_X11_takesOf (fun l => c_X11_takesOf l S ha10 hcw11) tb_88 rfl (rm_call hR.2 rfl rfl (Nat.le_of_ble_eq_true rfl) (Nat.le_of_ble_eq_true rfl)) rfl rfl (Nat.le_of_ble_eq_true rfl) dX11_readsRank_50 ?_
  refine V_istore_n (lv' := [(3, .int x12), (0, rf S 88), (1, .int x1)]) hX dX11_readsRank_53 (by decide) rfl ?_
  refine V_iload_n hX dX11_readsRank_54 0 rfl ?_
  refine V_if_ge (tgt := 60) hX dX11_readsRank_55 (by decide) (fun hc13 => ?_) (fun hc13 => ?_)
  · replace hP := ite_t hc13 hP
    refine V_aload_n hX dX11_readsRank_60 1 rfl ?_
    refine V_iload_n hX dX11_readsRank_61 2 rfl ?_
    refine V_iconst (v := 1) hX dX11_readsRank_62 (by decide) ?_
    refine V_iadd hX dX11_readsRank_63 ?_
    obtain ⟨x15, w14, hcw14, hP⟩ := bnd_e hP
    refine V_callVi (As := [.int (x1 + 1)]) (rest := []) hX mk_X11_217 nk_X11_readsRank (fun l => hg_X11_readsRank l _ _ _  hcw14) tb_88 rfl (rm_rec hR.2 (Nat.le_of_ble_eq_true rfl)) rfl rfl (Nat.le_of_ble_eq_true rfl) dX11_readsRank_64 ?_
    refine V_if_ne (tgt := 72) hX dX11_readsRank_67 (by decide) (fun hc16 => ?_) (fun hc16 => ?_)
    · replace hP := ite_f hc16 hP
      refine V_aload_n hX dX11_readsRank_72 1 rfl ?_
      refine V_sipush (v := 2000) hX dX11_readsRank_73 (by decide) ?_
      refine V_iload_n hX dX11_readsRank_76 0 rfl ?_
      refine V_iadd hX dX11_readsRank_77 ?_
      refine V_iload_n hX dX11_readsRank_78 2 rfl ?_
      have k24 : V X S w14 96 [(3, .int x12), (0, rf S 88), (1, .int x1)] [.int (if x1 = 0 then 0 else if x1 = 1 then 3 else 5), .int (2000 + x12), rf S 88] := by
        refine V_topi (fun x19 ex19 => ?_)
        replace hP := lt_r ex19 hP
        refine V_iadd hX dX11_readsRank_96 ?_
        obtain ⟨w20, hcw20, hP⟩ := bnv_e hP
        refine V_callVv (As := [.int ((2000 + x12) + x19)]) (rest := []) hX mk_X11_211 nk_X11_codes (fun l => c_X11_codes l S  hcw20) tb_88 rfl (rm_call hR.2 rfl rfl (Nat.le_of_ble_eq_true rfl) (Nat.le_of_ble_eq_true rfl)) rfl rfl (Nat.le_of_ble_eq_true rfl) dX11_readsRank_97 ?_
        refine V_iload_n hX dX11_readsRank_100 2 rfl ?_
        have k23 : V X S w20 109 [(3, .int x12), (0, rf S 88), (1, .int x1)] [.int (if x1 ≤ 0 then 0 else 1)] := by
          refine V_topi (fun x22 ex22 => ?_)
          replace hP := lt_r ex22 hP
          refine V_istore_n (lv' := [(2, .int x22), (3, .int x12), (0, rf S 88), (1, .int x1)]) hX dX11_readsRank_109 (by decide) rfl ?_
          refine V_goto (tgt := 24) hX dX11_readsRank_110 (by decide) ?_
          refine V_sub (lv' := [(0, rf S 88), (1, .int x1), (2, .int x22)]) [2, 3, 0] rfl ?_
          exact hrc _ _  hP
        refine V_if_le (tgt := 108) hX dX11_readsRank_101 (by decide) (fun hc21 => ?_) (fun hc21 => ?_)
        · refine V_iconst (v := 0) hX dX11_readsRank_108 (by decide) ?_
          refine V_selT (c := x1 ≤ 0) (b := 1) hc21 ?_
          exact k23
        · refine V_iconst (v := 1) hX dX11_readsRank_104 (by decide) ?_
          refine V_goto (tgt := 109) hX dX11_readsRank_105 (by decide) ?_
          refine V_selF (c := x1 ≤ 0) (a := 0) hc21 ?_
          exact k23
      refine V_if_ne (tgt := 86) hX dX11_readsRank_79 (by decide) (fun hc18 => ?_) (fun hc18 => ?_)
      · refine V_iload_n hX dX11_readsRank_86 2 rfl ?_
        refine V_iconst (v := 1) hX dX11_readsRank_87 (by decide) ?_
        refine V_icmp_ne (tgt := 95) hX dX11_readsRank_88 (by decide) (fun hc17 => ?_) (fun hc17 => ?_)
        · refine V_iconst (v := 5) hX dX11_readsRank_95 (by decide) ?_
          refine V_selF (c := x1 = 1) (a := 3) hc17 ?_
          refine V_selF (c := x1 = 0) (a := 0) hc18 ?_
          exact k24
        · refine V_iconst (v := 3) hX dX11_readsRank_91 (by decide) ?_
          refine V_goto (tgt := 96) hX dX11_readsRank_92 (by decide) ?_
          refine V_selT (c := x1 = 1) (b := 5) hc17 ?_
          refine V_selF (c := x1 = 0) (a := 0) hc18 ?_
          exact k24
      · refine V_iconst (v := 0) hX dX11_readsRank_82 (by decide) ?_
        refine V_goto (tgt := 96) hX dX11_readsRank_83 (by decide) ?_
        refine V_selT (c := x1 = 0) (b := if x1 = 1 then 3 else 5) hc18 ?_
        exact k24
    · replace hP := ite_t hc16 hP
      refine V_iconst (v := 0) hX dX11_readsRank_70 (by decide) ?_
      exact hR.1 _ _ _ _ (Option.some.inj hP) rfl dX11_readsRank_71
  · replace hP := ite_f hc13 hP
    refine V_iconst (v := 1) hX dX11_readsRank_58 (by decide) ?_
    exact hR.1 _ _ _ _ (Option.some.inj hP) rfl dX11_readsRank_59
def L_X11_readsRank_24 (F : Nat) (x1 : Int32) (g_X11_readsThing : Wd → Option (Int32 × Wd)) (g_X11_readsRank : Wd → Int32 → Option (Int32 × Wd)) (k113 : Wd → Option (Int32 × Wd)) : Nat → Wd → Int32 → Option (Int32 × Wd)
  | 0, _, _ => none
  | n + 1, w, x6 => (if x6 = 0 then k113 w  else (if x1 = 0 then K_X11_readsRank_50 F x1 g_X11_readsThing g_X11_readsRank k113 ((L_X11_readsRank_24 F x1 g_X11_readsThing g_X11_readsRank k113 n)) w 2 else (if x1 = 1 then K_X11_readsRank_50 F x1 g_X11_readsThing g_X11_readsRank k113 ((L_X11_readsRank_24 F x1 g_X11_readsThing g_X11_readsRank k113 n)) w 3 else K_X11_readsRank_50 F x1 g_X11_readsThing g_X11_readsRank k113 ((L_X11_readsRank_24 F x1 g_X11_readsThing g_X11_readsRank k113 n)) w 4)))
set_option maxRecDepth 100000 in
set_option maxHeartbeats 4000000 in
theorem sL_X11_readsRank_24 {X : Cx} {S : Sx} {rm rmc : Room} {r : Int32 × Wd} {F : Nat} {x1 : Int32} {g_X11_readsThing : Wd → Option (Int32 × Wd)} {g_X11_readsRank : Wd → Int32 → Option (Int32 × Wd)} {k113 : Wd → Option (Int32 × Wd)} (hX : Ok X S cX11_readsRank RX11 4 rm) (hR : HRt X S cX11_readsRank .boolean r ∧ RMr rm rmc)  (hg_X11_readsThing : ∀ (l : Launch) (w : Wd)  (r : Int32 × Wd) , g_X11_readsThing w  = some r → Met l yX11_readsThing (wsg yX11_readsThing cX11_readsThing 2 (some .boolean)) rmc (PC S w [rf S 88]) (QCi S r) 0 0 (Aw S)) (hg_X11_readsRank : ∀ (l : Launch) (w : Wd) (x1 : Int32) (r : Int32 × Wd) , g_X11_readsRank w x1 = some r → Met l yX11_readsRank (wsg yX11_readsRank cX11_readsRank 4 (some .boolean)) rmc (PC S w [rf S 88, .int x1]) (QCi S r) 0 0 (Aw S)) (hk113 : ∀ (w : Wd), k113 w = some r → V X S w 113 [] []) : ∀ (n : Nat) (w : Wd) (x6 : Int32) , L_X11_readsRank_24 F x1 g_X11_readsThing g_X11_readsRank k113 n w x6 = some r → V X S w 24 [(0, rf S 88), (1, .int x1), (2, .int x6)] [] := by
  intro n
  induction n with
  | zero =>
    intro w x6  hP
    exact nn hP
  | succ n ih =>
    intro w x6  hP
    rw [L_X11_readsRank_24] at hP
    refine V_iload_n hX dX11_readsRank_24 2 rfl ?_
    refine V_if_eq (tgt := 113) hX dX11_readsRank_25 (by decide) (fun hc7 => ?_) (fun hc7 => ?_)
    · replace hP := ite_t hc7 hP
      refine V_sub (lv' := []) [] rfl ?_
      exact hk113 _   hP
    · replace hP := ite_f hc7 hP
      refine V_aload_n hX dX11_readsRank_28 0 rfl ?_
      refine V_iload_n hX dX11_readsRank_29 1 rfl ?_
      refine V_if_ne (tgt := 38) hX dX11_readsRank_30 (by decide) (fun hc8 => ?_) (fun hc8 => ?_)
      · replace hP := ite_f hc8 hP
        refine V_iload_n hX dX11_readsRank_38 1 rfl ?_
        refine V_iconst (v := 1) hX dX11_readsRank_39 (by decide) ?_
        refine V_icmp_ne (tgt := 48) hX dX11_readsRank_40 (by decide) (fun hc9 => ?_) (fun hc9 => ?_)
        · replace hP := ite_f hc9 hP
          refine V_ldcS (k := 4) (tx := "*/") hX dX11_readsRank_48 (fun s h => h.2.2.2.1.2.2.2.2.2.1) ?_
          refine V_sub (lv' := [(0, rf S 88), (1, .int x1)]) [0, 1] rfl ?_
          exact sK_X11_readsRank_50 hX hR  hg_X11_readsThing hg_X11_readsRank hk113 ih (by decide) hP
        · replace hP := ite_t hc9 hP
          refine V_ldcS (k := 3) (tx := "+-") hX dX11_readsRank_43 (fun s h => h.2.2.2.1.2.2.2.2.1) ?_
          refine V_goto (tgt := 50) hX dX11_readsRank_45 (by decide) ?_
          refine V_sub (lv' := [(0, rf S 88), (1, .int x1)]) [0, 1] rfl ?_
          exact sK_X11_readsRank_50 hX hR  hg_X11_readsThing hg_X11_readsRank hk113 ih (by decide) hP
      · replace hP := ite_t hc8 hP
        refine V_ldcS (k := 2) (tx := "<>=") hX dX11_readsRank_33 (fun s h => h.2.2.2.1.2.2.2.1) ?_
        refine V_goto (tgt := 50) hX dX11_readsRank_35 (by decide) ?_
        refine V_sub (lv' := [(0, rf S 88), (1, .int x1)]) [0, 1] rfl ?_
        exact sK_X11_readsRank_50 hX hR  hg_X11_readsThing hg_X11_readsRank hk113 ih (by decide) hP
def B_X11_readsRank (F : Nat) (g_X11_readsThing : Wd → Option (Int32 × Wd)) (g_X11_readsRank : Wd → Int32 → Option (Int32 × Wd)) (w : Wd) (x1 : Int32) : Option (Int32 × Wd) := (if x1 = 3 then bnd (g_X11_readsThing w ) (fun x27 w26 => gd (isZO x27) (some (x27, w26))) else bnd (g_X11_readsRank w (x1 + 1)) (fun x4 w3 => (if x4 = 0 then some (0, w3) else L_X11_readsRank_24 F x1 g_X11_readsThing g_X11_readsRank (fun w  => some (1, w)) F w3 1)))
set_option maxRecDepth 100000 in
set_option maxHeartbeats 4000000 in
theorem s_X11_readsRank {X : Cx} {S : Sx} {rm rmc : Room} {r : Int32 × Wd} {F : Nat} {g_X11_readsThing : Wd → Option (Int32 × Wd)} {g_X11_readsRank : Wd → Int32 → Option (Int32 × Wd)} {w : Wd} {x1 : Int32}  (hX : Ok X S cX11_readsRank RX11 4 rm) (hR : HRt X S cX11_readsRank .boolean r ∧ RMr rm rmc) (hg_X11_readsThing : ∀ (l : Launch) (w : Wd)  (r : Int32 × Wd) , g_X11_readsThing w  = some r → Met l yX11_readsThing (wsg yX11_readsThing cX11_readsThing 2 (some .boolean)) rmc (PC S w [rf S 88]) (QCi S r) 0 0 (Aw S)) (hg_X11_readsRank : ∀ (l : Launch) (w : Wd) (x1 : Int32) (r : Int32 × Wd) , g_X11_readsRank w x1 = some r → Met l yX11_readsRank (wsg yX11_readsRank cX11_readsRank 4 (some .boolean)) rmc (PC S w [rf S 88, .int x1]) (QCi S r) 0 0 (Aw S)) (hP : B_X11_readsRank F g_X11_readsThing g_X11_readsRank w x1 = some r) : V X S w 0 [(0, rf S 88), (1, .int x1)] [] := by
  unfold B_X11_readsRank at hP
  refine V_iload_n hX dX11_readsRank_0 1 rfl ?_
  refine V_iconst (v := 3) hX dX11_readsRank_1 (by decide) ?_
  refine V_icmp_ne (tgt := 10) hX dX11_readsRank_2 (by decide) (fun hc2 => ?_) (fun hc2 => ?_)
  · replace hP := ite_f hc2 hP
    refine V_aload_n hX dX11_readsRank_10 0 rfl ?_
    refine V_iload_n hX dX11_readsRank_11 1 rfl ?_
    refine V_iconst (v := 1) hX dX11_readsRank_12 (by decide) ?_
    refine V_iadd hX dX11_readsRank_13 ?_
    obtain ⟨x4, w3, hcw3, hP⟩ := bnd_e hP
    refine V_callVi (As := [.int (x1 + 1)]) (rest := []) hX mk_X11_217 nk_X11_readsRank (fun l => hg_X11_readsRank l _ _ _  hcw3) tb_88 rfl (rm_rec hR.2 (Nat.le_of_ble_eq_true rfl)) rfl rfl (Nat.le_of_ble_eq_true rfl) dX11_readsRank_14 ?_
    refine V_if_ne (tgt := 22) hX dX11_readsRank_17 (by decide) (fun hc5 => ?_) (fun hc5 => ?_)
    · replace hP := ite_f hc5 hP
      refine V_iconst (v := 1) hX dX11_readsRank_22 (by decide) ?_
      refine V_istore_n (lv' := [(2, .int 1), (0, rf S 88), (1, .int x1)]) hX dX11_readsRank_23 (by decide) rfl ?_
      refine V_sub (lv' := [(0, rf S 88), (1, .int x1), (2, .int 1)]) [1, 2, 0] rfl ?_
      have k25 : ∀ (w : Wd)  , (some (1, w)) = some r → V X S w 113 [] [] := by
        intro w   hP
        refine V_iconst (v := 1) hX dX11_readsRank_113 (by decide) ?_
        exact hR.1 _ _ _ _ (Option.some.inj hP) rfl dX11_readsRank_114
      exact sL_X11_readsRank_24 hX hR  hg_X11_readsThing hg_X11_readsRank k25 F _ _  hP
    · replace hP := ite_t hc5 hP
      refine V_iconst (v := 0) hX dX11_readsRank_20 (by decide) ?_
      exact hR.1 _ _ _ _ (Option.some.inj hP) rfl dX11_readsRank_21
  · replace hP := ite_t hc2 hP
    refine V_aload_n hX dX11_readsRank_5 0 rfl ?_
    obtain ⟨x27, w26, hcw26, hP⟩ := bnd_e hP
    refine V_callVi (As := []) (rest := []) hX mk_X11_208 nk_X11_readsThing (fun l => hg_X11_readsThing l _  _  hcw26) tb_88 rfl (rm_rec hR.2 (Nat.le_of_ble_eq_true rfl)) rfl rfl (Nat.le_of_ble_eq_true rfl) dX11_readsRank_6 ?_
    obtain ⟨hz28, hP⟩ := gd_e hP
    exact hR.1 _ _ _ _ (Option.some.inj hP) (nar_z hz28) dX11_readsRank_9
def D_reads (F : Nat) : Nat → (Wd → Option (Int32 × Wd)) × (Wd → Int32 → Option (Int32 × Wd))
  | 0 => (fun _ => none, fun _ _ => none)
  | n + 1 => (fun w  => B_X11_readsThing F (D_reads F n).1 (D_reads F n).2 w , fun w x1 => B_X11_readsRank F (D_reads F n).1 (D_reads F n).2 w x1)
set_option maxRecDepth 100000 in
set_option maxHeartbeats 4000000 in
theorem cD_reads (S : Sx) (F : Nat) : ∀ n : Nat, (∀ (l : Launch) (w : Wd)  (r : Int32 × Wd) , (D_reads F n).1 w  = some r → Met l yX11_readsThing (wsg yX11_readsThing cX11_readsThing 2 (some .boolean)) (rmD n) (PC S w [rf S 88]) (QCi S r) 0 0 (Aw S)) ∧ (∀ (l : Launch) (w : Wd) (x1 : Int32) (r : Int32 × Wd) , (D_reads F n).2 w x1 = some r → Met l yX11_readsRank (wsg yX11_readsRank cX11_readsRank 4 (some .boolean)) (rmD n) (PC S w [rf S 88, .int x1]) (QCi S r) 0 0 (Aw S)) := by
  intro n
  induction n with
  | zero => exact ⟨fun _ _ _ h => nn h, fun _ _ _ _ h => nn h⟩
  | succ n ih =>
    obtain ⟨ih0, ih1⟩ := ih
    refine ⟨?_, ?_⟩
    · intro l w  r  h
      exact met_i (by decide) rfl (Nat.le_of_ble_eq_true rfl) ⟨rfl, rfl⟩ (fun X hX hR => s_X11_readsThing (F := F)  hX ⟨hR, rmD_r n⟩ ih0 ih1 h)
    · intro l w x1 r  h
      exact met_i (by decide) rfl (Nat.le_of_ble_eq_true rfl) ⟨rfl, rfl⟩ (fun X hX hR => s_X11_readsRank (F := F)  hX ⟨hR, rmD_r n⟩ ih0 ih1 h)
abbrev rm_X11_readsThing : Room := { frames := 150, cells := 0, slots := 0, locals := 13500 }
def P_X11_readsThing (F : Nat) (w : Wd)  : Option (Int32 × Wd) := (D_reads F 100).1 w 
theorem c_X11_readsThing (l : Launch) (S : Sx) {r : Int32 × Wd} {F : Nat} {w : Wd}   (h : P_X11_readsThing F w  = some r) : Met l yX11_readsThing (wsg yX11_readsThing cX11_readsThing 2 (some .boolean)) rm_X11_readsThing (PC S w [rf S 88]) (QCi S r) 0 0 (Aw S) := (cD_reads S F 100).1 l w  r  h
abbrev rm_X11_readsRank : Room := { frames := 150, cells := 0, slots := 0, locals := 13500 }
def P_X11_readsRank (F : Nat) (w : Wd) (x1 : Int32) : Option (Int32 × Wd) := (D_reads F 100).2 w x1
theorem c_X11_readsRank (l : Launch) (S : Sx) {r : Int32 × Wd} {F : Nat} {w : Wd} {x1 : Int32}  (h : P_X11_readsRank F w x1 = some r) : Met l yX11_readsRank (wsg yX11_readsRank cX11_readsRank 4 (some .boolean)) rm_X11_readsRank (PC S w [rf S 88, .int x1]) (QCi S r) 0 0 (Aw S) := (cD_reads S F 100).2 l w x1 r  h

-- MustNotStopModel.readsRule()I
abbrev rm_X11_readsRule : Room := { frames := 151, cells := 0, slots := 0, locals := 13523 }
theorem nk_X11_readsRule : MNk yX11_readsRule RX11 0 := ⟨rfl, by decide, by decide, by decide +kernel⟩
def K_X11_readsRule_29 (F : Nat)   (w : Wd) (x6 : Int32) (x7 : Int32) : Option (Int32 × Wd) := bnd (P_X11_faultOf F w x6 40 x7) (fun x9 w8 => some (x9, w8))
set_option maxRecDepth 100000 in
set_option maxHeartbeats 4000000 in
theorem sK_X11_readsRule_29 {X : Cx} {S : Sx} {r : Int32 × Wd} {F : Nat}   {w : Wd} {x6 : Int32} {x7 : Int32} (hX : Ok X S cX11_readsRule RX11 3 rm_X11_readsRule) (hR : HRt X S cX11_readsRule .int r)    (hP : K_X11_readsRule_29 F   w x6 x7 = some r) : V X S w 29 [(0, rf S 88), (1, .int x6)] [.int x7] := by
  unfold K_X11_readsRule_29 at hP
  refine V_istore_n (lv' := [(2, .int x7), (0, rf S 88), (1, .int x6)]) hX dX11_readsRule_29 (by decide) rfl ?_
  refine V_aload_n hX dX11_readsRule_30 1 rfl ?_
  refine V_iload_n hX dX11_readsRule_31 2 rfl ?_
  refine V_bipush (v := 40) hX dX11_readsRule_32 (by decide) ?_
  refine V_iload_n hX dX11_readsRule_34 0 rfl ?_
  obtain ⟨x9, w8, hcw8, hP⟩ := bnd_e hP
  refine V_callVi (As := [.int x6, .int 40, .int x7]) (rest := []) hX mk_X11_186 nk_X11_faultOf (fun l => c_X11_faultOf l S  hcw8) tb_88 rfl ⟨rfl, rfl, Nat.le_of_ble_eq_true rfl, Nat.le_of_ble_eq_true rfl⟩ rfl rfl (Nat.le_of_ble_eq_true rfl) dX11_readsRule_35 ?_
  exact hR _ _ _ _ (Option.some.inj hP) rfl dX11_readsRule_38
def K_X11_readsRule_24 (F : Nat)   (w : Wd) (x5 : Int32) : Option (Int32 × Wd) := K_X11_readsRule_29 F   w x5 1
set_option maxRecDepth 100000 in
set_option maxHeartbeats 4000000 in
theorem sK_X11_readsRule_24 {X : Cx} {S : Sx} {r : Int32 × Wd} {F : Nat}   {w : Wd} {x5 : Int32} (hX : Ok X S cX11_readsRule RX11 3 rm_X11_readsRule) (hR : HRt X S cX11_readsRule .int r)    (hP : K_X11_readsRule_24 F   w x5 = some r) : V X S w 24 [(0, rf S 88), (1, .int x5)] [] := by
  unfold K_X11_readsRule_24 at hP
  refine V_iconst (v := 1) hX dX11_readsRule_24 (by decide) ?_
  refine V_goto (tgt := 29) hX dX11_readsRule_25 (by decide) ?_
  exact sK_X11_readsRule_29 hX hR    hP
def P_X11_readsRule (F : Nat) (w : Wd)  : Option (Int32 × Wd) := bnd (P_X11_begins F w 40) (fun x2 w1 => lt (sI w1 88 23 0) (fun w3 => (if x2 = 0 then K_X11_readsRule_24 F   w3 x2 else bnd (P_X11_readsRank F w3 0) (fun x11 w10 => lt (if x11 = 0 then 0 else 1 : Int32) (fun x13 => bnd (P_X11_faultOf F w10 x2 40 x13) (fun x15 w14 => some (x15, w14)))))))
set_option maxRecDepth 100000 in
set_option maxHeartbeats 4000000 in
theorem s_X11_readsRule {X : Cx} {S : Sx} {r : Int32 × Wd} {F : Nat} {w : Wd}   (hX : Ok X S cX11_readsRule RX11 3 rm_X11_readsRule) (hR : HRt X S cX11_readsRule .int r) (hP : P_X11_readsRule F w  = some r) : V X S w 0 [(0, rf S 88)] [] := by
  unfold P_X11_readsRule at hP
  refine V_aload_n hX dX11_readsRule_0 0 rfl ?_
  refine V_bipush (v := 40) hX dX11_readsRule_1 (by decide) ?_
  obtain ⟨x2, w1, hcw1, hP⟩ := bnd_e hP
  refine V_callVi (As := [.int 40]) (rest := []) hX mk_X11_176 nk_X11_begins (fun l => c_X11_begins l S  hcw1) tb_88 rfl ⟨rfl, rfl, Nat.le_of_ble_eq_true rfl, Nat.le_of_ble_eq_true rfl⟩ rfl rfl (Nat.le_of_ble_eq_true rfl) dX11_readsRule_3 ?_
  refine V_istore_n (lv' := [(1, .int x2), (0, rf S 88)]) hX dX11_readsRule_6 (by decide) rfl ?_
  refine V_aload_n hX dX11_readsRule_7 1 rfl ?_
  refine V_iconst (v := 0) hX dX11_readsRule_8 (by decide) ?_
  refine V_putI hX fw_X11_205 tb_88 (fun _ _ _ => ⟨Nat.le_of_ble_eq_true rfl, rfl⟩) dX11_readsRule_9 (fun w3 ew3 => ?_)
  replace hP := lt_r ew3 hP
  refine V_iload_n hX dX11_readsRule_12 0 rfl ?_
  refine V_if_eq (tgt := 24) hX dX11_readsRule_13 (by decide) (fun hc4 => ?_) (fun hc4 => ?_)
  · replace hP := ite_t hc4 hP
    refine V_sub (lv' := [(0, rf S 88), (1, .int x2)]) [1, 0] rfl ?_
    exact sK_X11_readsRule_24 hX hR    hP
  · replace hP := ite_f hc4 hP
    refine V_aload_n hX dX11_readsRule_16 1 rfl ?_
    refine V_iconst (v := 0) hX dX11_readsRule_17 (by decide) ?_
    obtain ⟨x11, w10, hcw10, hP⟩ := bnd_e hP
    refine V_callVi (As := [.int 0]) (rest := []) hX mk_X11_217 nk_X11_readsRank (fun l => c_X11_readsRank l S  hcw10) tb_88 rfl ⟨rfl, rfl, Nat.le_of_ble_eq_true rfl, Nat.le_of_ble_eq_true rfl⟩ rfl rfl (Nat.le_of_ble_eq_true rfl) dX11_readsRule_18 ?_
    have k16 : V X S w10 29 [(1, .int x2), (0, rf S 88)] [.int (if x11 = 0 then 0 else 1)] := by
      refine V_topi (fun x13 ex13 => ?_)
      replace hP := lt_r ex13 hP
      refine V_istore_n (lv' := [(2, .int x13), (1, .int x2), (0, rf S 88)]) hX dX11_readsRule_29 (by decide) rfl ?_
      refine V_aload_n hX dX11_readsRule_30 2 rfl ?_
      refine V_iload_n hX dX11_readsRule_31 1 rfl ?_
      refine V_bipush (v := 40) hX dX11_readsRule_32 (by decide) ?_
      refine V_iload_n hX dX11_readsRule_34 0 rfl ?_
      obtain ⟨x15, w14, hcw14, hP⟩ := bnd_e hP
      refine V_callVi (As := [.int x2, .int 40, .int x13]) (rest := []) hX mk_X11_186 nk_X11_faultOf (fun l => c_X11_faultOf l S  hcw14) tb_88 rfl ⟨rfl, rfl, Nat.le_of_ble_eq_true rfl, Nat.le_of_ble_eq_true rfl⟩ rfl rfl (Nat.le_of_ble_eq_true rfl) dX11_readsRule_35 ?_
      exact hR _ _ _ _ (Option.some.inj hP) rfl dX11_readsRule_38
    refine V_if_eq (tgt := 28) hX dX11_readsRule_21 (by decide) (fun hc12 => ?_) (fun hc12 => ?_)
    · refine V_iconst (v := 0) hX dX11_readsRule_28 (by decide) ?_
      refine V_selT (c := x11 = 0) (b := 1) hc12 ?_
      exact k16
    · refine V_iconst (v := 1) hX dX11_readsRule_24 (by decide) ?_
      refine V_goto (tgt := 29) hX dX11_readsRule_25 (by decide) ?_
      refine V_selF (c := x11 = 0) (a := 0) hc12 ?_
      exact k16
theorem c_X11_readsRule (l : Launch) (S : Sx) {r : Int32 × Wd} {F : Nat} {w : Wd}   (h : P_X11_readsRule F w  = some r) : Met l yX11_readsRule (wsg yX11_readsRule cX11_readsRule 3 (some .int)) rm_X11_readsRule (PC S w [rf S 88]) (QCi S r) 0 0 (Aw S) :=
  met_i (by decide) rfl (Nat.le_of_ble_eq_true rfl) ⟨rfl, rfl⟩ (fun X hX hR => s_X11_readsRule  hX hR h)

-- MustNotStopModel.laysCode([II)V
abbrev rm_X11_laysCode : Room := { frames := 1, cells := 0, slots := 0, locals := 64 }
theorem nk_X11_laysCode : MNk yX11_laysCode RX11 2 := ⟨rfl, by decide, by decide, by decide +kernel⟩
def L_X11_laysCode_7 (F : Nat) (a1 : Nat) (x2 : Int32) (k27 : Wd → Option (Wd)) : Nat → Wd → Int32 → Option (Wd)
  | 0, _, _ => none
  | n + 1, w, x4 => (if x2 ≤ x4 then k27 w  else gd (inB x4 (alen a1)) (gd (inB x4 80) (lt (sI w 99 x4.toNatClampNeg (gI w a1 x4.toNatClampNeg)) (fun w8 => lt (x4 + 1 : Int32) (fun x9 => L_X11_laysCode_7 F a1 x2 k27 n w8 x9)))))
set_option maxRecDepth 100000 in
set_option maxHeartbeats 4000000 in
theorem sL_X11_laysCode_7 {X : Cx} {S : Sx} {r : Wd} {F : Nat} {a1 : Nat} {x2 : Int32} {k27 : Wd → Option (Wd)} (hX : Ok X S cX11_laysCode RX11 4 rm_X11_laysCode) (hR : HRv X S cX11_laysCode r) (ha1 : isIA a1 = true) (hk27 : ∀ (w : Wd), k27 w = some r → V X S w 27 [] []) : ∀ (n : Nat) (w : Wd) (x4 : Int32) , L_X11_laysCode_7 F a1 x2 k27 n w x4 = some r → V X S w 7 [(0, rf S 88), (1, rf S a1), (2, .int x2), (3, .int x4)] [] := by
  intro n
  induction n with
  | zero =>
    intro w x4  hP
    exact nn hP
  | succ n ih =>
    intro w x4  hP
    rw [L_X11_laysCode_7] at hP
    refine V_iload_n hX dX11_laysCode_7 3 rfl ?_
    refine V_iload_n hX dX11_laysCode_8 2 rfl ?_
    refine V_icmp_ge (tgt := 27) hX dX11_laysCode_9 (by decide) (fun hc5 => ?_) (fun hc5 => ?_)
    · replace hP := ite_t hc5 hP
      refine V_sub (lv' := []) [] rfl ?_
      exact hk27 _   hP
    · replace hP := ite_f hc5 hP
      refine V_aload_n hX dX11_laysCode_12 0 rfl ?_
      refine V_getF (j := 99) hX fk_X11_41 tb_88 (fun _ _ _ => rfl) dX11_laysCode_13 ?_
      refine V_iload_n hX dX11_laysCode_16 3 rfl ?_
      refine V_aload_n hX dX11_laysCode_17 1 rfl ?_
      refine V_iload_n hX dX11_laysCode_18 3 rfl ?_
      obtain ⟨hi6, hP⟩ := gd_e hP
      refine V_iald hX (tb_IA ha1) hi6 dX11_laysCode_19 ?_
      obtain ⟨hi7, hP⟩ := gd_e hP
      refine V_iast hX tb_99 hi7 dX11_laysCode_20 (fun w8 ew8 => ?_)
      replace hP := lt_r ew8 hP
      obtain ⟨x9, ex9⟩ : ∃ y : Int32, y = x4 + 1 := ⟨_, rfl⟩
      replace hP := lt_r ex9 hP
      refine V_iinc (v := x9) (lv' := [(3, .int x9), (0, rf S 88), (1, rf S a1), (2, .int x2)]) hX dX11_laysCode_21 (j := 3) rfl (by decide) (by rw [ex9]; rfl) rfl ?_
      refine V_goto (tgt := 7) hX dX11_laysCode_24 (by decide) ?_
      refine V_sub (lv' := [(0, rf S 88), (1, rf S a1), (2, .int x2), (3, .int x9)]) [1, 2, 3, 0] rfl ?_
      exact ih _ _  hP
def P_X11_laysCode (F : Nat) (w : Wd) (a1 : Nat) (x2 : Int32) : Option (Wd) := lt (sI w 88 22 x2) (fun w3 => L_X11_laysCode_7 F a1 x2 (fun w  => some w) F w3 0)
set_option maxRecDepth 100000 in
set_option maxHeartbeats 4000000 in
theorem s_X11_laysCode {X : Cx} {S : Sx} {r : Wd} {F : Nat} {w : Wd} {a1 : Nat} {x2 : Int32} (ha1 : isIA a1 = true) (hX : Ok X S cX11_laysCode RX11 4 rm_X11_laysCode) (hR : HRv X S cX11_laysCode r) (hP : P_X11_laysCode F w a1 x2 = some r) : V X S w 0 [(0, rf S 88), (1, rf S a1), (2, .int x2)] [] := by
  unfold P_X11_laysCode at hP
  refine V_aload_n hX dX11_laysCode_0 0 rfl ?_
  refine V_iload_n hX dX11_laysCode_1 2 rfl ?_
  refine V_putI hX fw_X11_233 tb_88 (fun _ _ _ => ⟨Nat.le_of_ble_eq_true rfl, rfl⟩) dX11_laysCode_2 (fun w3 ew3 => ?_)
  replace hP := lt_r ew3 hP
  refine V_iconst (v := 0) hX dX11_laysCode_5 (by decide) ?_
  refine V_istore_n (lv' := [(3, .int 0), (0, rf S 88), (1, rf S a1), (2, .int x2)]) hX dX11_laysCode_6 (by decide) rfl ?_
  refine V_sub (lv' := [(0, rf S 88), (1, rf S a1), (2, .int x2), (3, .int 0)]) [1, 2, 3, 0] rfl ?_
  have k10 : ∀ (w : Wd)  , (some w) = some r → V X S w 27 [] [] := by
    intro w   hP
    exact hR _ _ _ (Option.some.inj hP) dX11_laysCode_27
  exact sL_X11_laysCode_7 hX hR ha1 k10 F _ _  hP
theorem c_X11_laysCode (l : Launch) (S : Sx) {r : Wd} {F : Nat} {w : Wd} {a1 : Nat} {x2 : Int32} (ha1 : isIA a1 = true) (h : P_X11_laysCode F w a1 x2 = some r) : Met l yX11_laysCode (wsg yX11_laysCode cX11_laysCode 4 none) rm_X11_laysCode (PC S w [rf S 88, rf S a1, .int x2]) (QCv S r) 0 0 (Aw S) :=
  met_v (by decide) rfl (Nat.le_of_ble_eq_true rfl) ⟨rfl, rfl⟩ (fun X hX hR => s_X11_laysCode ha1 hX hR h)

-- MustNotStopModel.rule()I
abbrev rm_X11_rule : Room := { frames := 152, cells := 0, slots := 0, locals := 13545 }
theorem nk_X11_rule : MNk yX11_rule RX11 0 := ⟨rfl, by decide, by decide, by decide +kernel⟩
def P_X11_rule (F : Nat) (w : Wd)  : Option (Int32 × Wd) := lt (sI w 88 0 0) (fun w1 => bnd (P_X11_readsRule F w1 ) (fun x3 w2 => (if x3 = 0 then bnv (P_X11_laysCode F w2 100 (gI w2 88 23)) (fun w5 => some (x3, w5)) else some (x3, w2))))
set_option maxRecDepth 100000 in
set_option maxHeartbeats 4000000 in
theorem s_X11_rule {X : Cx} {S : Sx} {r : Int32 × Wd} {F : Nat} {w : Wd}   (hX : Ok X S cX11_rule RX11 2 rm_X11_rule) (hR : HRt X S cX11_rule .int r) (hP : P_X11_rule F w  = some r) : V X S w 0 [(0, rf S 88)] [] := by
  unfold P_X11_rule at hP
  refine V_aload_n hX dX11_rule_0 0 rfl ?_
  refine V_iconst (v := 0) hX dX11_rule_1 (by decide) ?_
  refine V_putI hX fw_X11_102 tb_88 (fun _ _ _ => ⟨Nat.le_of_ble_eq_true rfl, rfl⟩) dX11_rule_2 (fun w1 ew1 => ?_)
  replace hP := lt_r ew1 hP
  refine V_aload_n hX dX11_rule_5 0 rfl ?_
  obtain ⟨x3, w2, hcw2, hP⟩ := bnd_e hP
  refine V_callVi (As := []) (rest := []) hX mk_X11_226 nk_X11_readsRule (fun l => c_X11_readsRule l S  hcw2) tb_88 rfl ⟨rfl, rfl, Nat.le_of_ble_eq_true rfl, Nat.le_of_ble_eq_true rfl⟩ rfl rfl (Nat.le_of_ble_eq_true rfl) dX11_rule_6 ?_
  refine V_istore_n (lv' := [(1, .int x3), (0, rf S 88)]) hX dX11_rule_9 (by decide) rfl ?_
  refine V_iload_n hX dX11_rule_10 0 rfl ?_
  refine V_if_ne (tgt := 26) hX dX11_rule_11 (by decide) (fun hc4 => ?_) (fun hc4 => ?_)
  · replace hP := ite_f hc4 hP
    refine V_iload_n hX dX11_rule_26 0 rfl ?_
    exact hR _ _ _ _ (Option.some.inj hP) rfl dX11_rule_27
  · replace hP := ite_t hc4 hP
    refine V_aload_n hX dX11_rule_14 1 rfl ?_
    refine V_aload_n hX dX11_rule_15 1 rfl ?_
    refine V_getF (j := 100) hX fk_X11_44 tb_88 (fun _ _ _ => rfl) dX11_rule_16 ?_
    refine V_aload_n hX dX11_rule_19 1 rfl ?_
    refine V_getI hX fk_X11_205 tb_88 (fun _ _ _ => rfl) dX11_rule_20 ?_
    obtain ⟨w5, hcw5, hP⟩ := bnv_e hP
    refine V_callVv (As := [rf S 100, .int (gI w2 88 23)]) (rest := []) hX mk_X11_229 nk_X11_laysCode (fun l => c_X11_laysCode l S (by decide) hcw5) tb_88 rfl ⟨rfl, rfl, Nat.le_of_ble_eq_true rfl, Nat.le_of_ble_eq_true rfl⟩ rfl rfl (Nat.le_of_ble_eq_true rfl) dX11_rule_23 ?_
    refine V_iload_n hX dX11_rule_26 0 rfl ?_
    exact hR _ _ _ _ (Option.some.inj hP) rfl dX11_rule_27
theorem c_X11_rule (l : Launch) (S : Sx) {r : Int32 × Wd} {F : Nat} {w : Wd}   (h : P_X11_rule F w  = some r) : Met l yX11_rule (wsg yX11_rule cX11_rule 2 (some .int)) rm_X11_rule (PC S w [rf S 88]) (QCi S r) 0 0 (Aw S) :=
  met_i (by decide) rfl (Nat.le_of_ble_eq_true rfl) ⟨rfl, rfl⟩ (fun X hX hR => s_X11_rule  hX hR h)

-- MustNotStopModel.worked(III)I
abbrev rm_X11_worked : Room := { frames := 2, cells := 0, slots := 0, locals := 84 }
theorem nk_X11_worked : MNk yX11_worked RX11 3 := ⟨rfl, by decide, by decide, by decide +kernel⟩
def P_X11_worked (F : Nat) (w : Wd) (x1 : Int32) (x2 : Int32) (x3 : Int32) : Option (Int32 × Wd) := (if x1 = 0 then lt (if x3 ≤ x2 then 0 else 1 : Int32) (fun x6 => bnd (P_X11_flag F w x6) (fun x8 w7 => some (x8, w7))) else (if x1 = 1 then lt (if x2 ≤ x3 then 0 else 1 : Int32) (fun x12 => bnd (P_X11_flag F w x12) (fun x14 w13 => some (x14, w13))) else (if x1 = 2 then lt (if x2 = x3 then 1 else 0 : Int32) (fun x18 => bnd (P_X11_flag F w x18) (fun x20 w19 => some (x20, w19))) else (if x1 = 3 then some (x2 + x3, w) else (if x1 = 4 then some (x2 - x3, w) else (if x1 = 5 then some (x2 * x3, w) else (if x3 = 0 then some (0, w) else gd (neZ x3) (some (x2 / x3, w)))))))))
set_option maxRecDepth 100000 in
set_option maxHeartbeats 4000000 in
theorem s_X11_worked {X : Cx} {S : Sx} {r : Int32 × Wd} {F : Nat} {w : Wd} {x1 : Int32} {x2 : Int32} {x3 : Int32}  (hX : Ok X S cX11_worked RX11 3 rm_X11_worked) (hR : HRt X S cX11_worked .int r) (hP : P_X11_worked F w x1 x2 x3 = some r) : V X S w 0 [(0, .int x1), (1, .int x2), (2, .int x3)] [] := by
  unfold P_X11_worked at hP
  refine V_iload_n hX dX11_worked_0 0 rfl ?_
  by_cases hc4 : x1 = 0
  · replace hP := ite_t hc4 hP
    refine V_tableIn (tgt := 40) hX dX11_worked_1 (by rw [hc4]; decide) (by rw [hc4]; decide) (by rw [hc4] <;> rfl) (by decide) ?_
    refine V_iload_n hX dX11_worked_40 1 rfl ?_
    refine V_iload_n hX dX11_worked_41 2 rfl ?_
    have k9 : V X S w 50 [(0, .int x1), (1, .int x2), (2, .int x3)] [.int (if x3 ≤ x2 then 0 else 1)] := by
      refine V_topi (fun x6 ex6 => ?_)
      replace hP := lt_r ex6 hP
      obtain ⟨x8, w7, hcw7, hP⟩ := bnd_e hP
      refine V_callSi (As := [.int x6]) (rest := []) hX mk_X11_138 nk_X11_flag (fun l => c_X11_flag l S  hcw7) ⟨rfl, rfl, Nat.le_of_ble_eq_true rfl, Nat.le_of_ble_eq_true rfl⟩ rfl rfl (Nat.le_of_ble_eq_true rfl) dX11_worked_50 ?_
      exact hR _ _ _ _ (Option.some.inj hP) rfl dX11_worked_53
    refine V_icmp_ge (tgt := 49) hX dX11_worked_42 (by decide) (fun hc5 => ?_) (fun hc5 => ?_)
    · refine V_iconst (v := 0) hX dX11_worked_49 (by decide) ?_
      refine V_selT (c := x3 ≤ x2) (b := 1) hc5 ?_
      exact k9
    · refine V_iconst (v := 1) hX dX11_worked_45 (by decide) ?_
      refine V_goto (tgt := 50) hX dX11_worked_46 (by decide) ?_
      refine V_selF (c := x3 ≤ x2) (a := 0) hc5 ?_
      exact k9
  replace hP := ite_f hc4 hP
  by_cases hc10 : x1 = 1
  · replace hP := ite_t hc10 hP
    refine V_tableIn (tgt := 54) hX dX11_worked_1 (by rw [hc10]; decide) (by rw [hc10]; decide) (by rw [hc10] <;> rfl) (by decide) ?_
    refine V_iload_n hX dX11_worked_54 1 rfl ?_
    refine V_iload_n hX dX11_worked_55 2 rfl ?_
    have k15 : V X S w 64 [(0, .int x1), (1, .int x2), (2, .int x3)] [.int (if x2 ≤ x3 then 0 else 1)] := by
      refine V_topi (fun x12 ex12 => ?_)
      replace hP := lt_r ex12 hP
      obtain ⟨x14, w13, hcw13, hP⟩ := bnd_e hP
      refine V_callSi (As := [.int x12]) (rest := []) hX mk_X11_138 nk_X11_flag (fun l => c_X11_flag l S  hcw13) ⟨rfl, rfl, Nat.le_of_ble_eq_true rfl, Nat.le_of_ble_eq_true rfl⟩ rfl rfl (Nat.le_of_ble_eq_true rfl) dX11_worked_64 ?_
      exact hR _ _ _ _ (Option.some.inj hP) rfl dX11_worked_67
    refine V_icmp_le (tgt := 63) hX dX11_worked_56 (by decide) (fun hc11 => ?_) (fun hc11 => ?_)
    · refine V_iconst (v := 0) hX dX11_worked_63 (by decide) ?_
      refine V_selT (c := x2 ≤ x3) (b := 1) hc11 ?_
      exact k15
    · refine V_iconst (v := 1) hX dX11_worked_59 (by decide) ?_
      refine V_goto (tgt := 64) hX dX11_worked_60 (by decide) ?_
      refine V_selF (c := x2 ≤ x3) (a := 0) hc11 ?_
      exact k15
  replace hP := ite_f hc10 hP
  by_cases hc16 : x1 = 2
  · replace hP := ite_t hc16 hP
    refine V_tableIn (tgt := 68) hX dX11_worked_1 (by rw [hc16]; decide) (by rw [hc16]; decide) (by rw [hc16] <;> rfl) (by decide) ?_
    refine V_iload_n hX dX11_worked_68 1 rfl ?_
    refine V_iload_n hX dX11_worked_69 2 rfl ?_
    have k21 : V X S w 78 [(0, .int x1), (1, .int x2), (2, .int x3)] [.int (if x2 = x3 then 1 else 0)] := by
      refine V_topi (fun x18 ex18 => ?_)
      replace hP := lt_r ex18 hP
      obtain ⟨x20, w19, hcw19, hP⟩ := bnd_e hP
      refine V_callSi (As := [.int x18]) (rest := []) hX mk_X11_138 nk_X11_flag (fun l => c_X11_flag l S  hcw19) ⟨rfl, rfl, Nat.le_of_ble_eq_true rfl, Nat.le_of_ble_eq_true rfl⟩ rfl rfl (Nat.le_of_ble_eq_true rfl) dX11_worked_78 ?_
      exact hR _ _ _ _ (Option.some.inj hP) rfl dX11_worked_81
    refine V_icmp_ne (tgt := 77) hX dX11_worked_70 (by decide) (fun hc17 => ?_) (fun hc17 => ?_)
    · refine V_iconst (v := 0) hX dX11_worked_77 (by decide) ?_
      refine V_selF (c := x2 = x3) (a := 1) hc17 ?_
      exact k21
    · refine V_iconst (v := 1) hX dX11_worked_73 (by decide) ?_
      refine V_goto (tgt := 78) hX dX11_worked_74 (by decide) ?_
      refine V_selT (c := x2 = x3) (b := 0) hc17 ?_
      exact k21
  replace hP := ite_f hc16 hP
  by_cases hc22 : x1 = 3
  · replace hP := ite_t hc22 hP
    refine V_tableIn (tgt := 82) hX dX11_worked_1 (by rw [hc22]; decide) (by rw [hc22]; decide) (by rw [hc22] <;> rfl) (by decide) ?_
    refine V_iload_n hX dX11_worked_82 1 rfl ?_
    refine V_iload_n hX dX11_worked_83 2 rfl ?_
    refine V_iadd hX dX11_worked_84 ?_
    exact hR _ _ _ _ (Option.some.inj hP) rfl dX11_worked_85
  replace hP := ite_f hc22 hP
  by_cases hc23 : x1 = 4
  · replace hP := ite_t hc23 hP
    refine V_tableIn (tgt := 86) hX dX11_worked_1 (by rw [hc23]; decide) (by rw [hc23]; decide) (by rw [hc23] <;> rfl) (by decide) ?_
    refine V_iload_n hX dX11_worked_86 1 rfl ?_
    refine V_iload_n hX dX11_worked_87 2 rfl ?_
    refine V_isub hX dX11_worked_88 ?_
    exact hR _ _ _ _ (Option.some.inj hP) rfl dX11_worked_89
  replace hP := ite_f hc23 hP
  by_cases hc24 : x1 = 5
  · replace hP := ite_t hc24 hP
    refine V_tableIn (tgt := 90) hX dX11_worked_1 (by rw [hc24]; decide) (by rw [hc24]; decide) (by rw [hc24] <;> rfl) (by decide) ?_
    refine V_iload_n hX dX11_worked_90 1 rfl ?_
    refine V_iload_n hX dX11_worked_91 2 rfl ?_
    refine V_imul hX dX11_worked_92 ?_
    exact hR _ _ _ _ (Option.some.inj hP) rfl dX11_worked_93
  replace hP := ite_f hc24 hP
  refine V_tableOut (tgt := 94) hX dX11_worked_1 (ts_out (fun k h1 h2 => by
      have hk : k = 0 ∨ k = 1 ∨ k = 2 ∨ k = 3 ∨ k = 4 ∨ k = 5 := by omega
      rcases hk with rfl | rfl | rfl | rfl | rfl | rfl
      · exact fun e => hc4 (by rw [e]; rfl)
      · exact fun e => hc10 (by rw [e]; rfl)
      · exact fun e => hc16 (by rw [e]; rfl)
      · exact fun e => hc22 (by rw [e]; rfl)
      · exact fun e => hc23 (by rw [e]; rfl)
      · exact fun e => hc24 (by rw [e]; rfl)
      )) (by decide) ?_
  refine V_iload_n hX dX11_worked_94 2 rfl ?_
  refine V_if_ne (tgt := 102) hX dX11_worked_95 (by decide) (fun hc25 => ?_) (fun hc25 => ?_)
  · replace hP := ite_f hc25 hP
    refine V_iload_n hX dX11_worked_102 1 rfl ?_
    refine V_iload_n hX dX11_worked_103 2 rfl ?_
    obtain ⟨hz26, hP⟩ := gd_e hP
    refine V_idiv hX dX11_worked_104 hz26 ?_
    exact hR _ _ _ _ (Option.some.inj hP) rfl dX11_worked_105
  · replace hP := ite_t hc25 hP
    refine V_iconst (v := 0) hX dX11_worked_98 (by decide) ?_
    refine V_goto (tgt := 105) hX dX11_worked_99 (by decide) ?_
    exact hR _ _ _ _ (Option.some.inj hP) rfl dX11_worked_105
theorem c_X11_worked (l : Launch) (S : Sx) {r : Int32 × Wd} {F : Nat} {w : Wd} {x1 : Int32} {x2 : Int32} {x3 : Int32}  (h : P_X11_worked F w x1 x2 x3 = some r) : Met l yX11_worked (wsg yX11_worked cX11_worked 3 (some .int)) rm_X11_worked (PC S w [.int x1, .int x2, .int x3]) (QCi S r) 0 0 (Aw S) :=
  met_i (by decide) rfl (Nat.le_of_ble_eq_true rfl) ⟨rfl, rfl⟩ (fun X hX hR => s_X11_worked  hX hR h)

-- MustNotStopModel.ruled()I
abbrev rm_X11_ruled : Room := { frames := 3, cells := 0, slots := 0, locals := 106 }
theorem nk_X11_ruled : MNk yX11_ruled RX11 0 := ⟨rfl, by decide, by decide, by decide +kernel⟩
def K_X11_ruled_119 (F : Nat)  (k125 : Wd → Option (Int32 × Wd)) (rc : Wd → Int32 → Int32 → Option (Int32 × Wd)) (w : Wd) (x16 : Int32) (x17 : Int32) : Option (Int32 × Wd) := lt (x17 + 1 : Int32) (fun x18 => rc w x16 x18)
set_option maxRecDepth 100000 in
set_option maxHeartbeats 4000000 in
theorem sK_X11_ruled_119 {X : Cx} {S : Sx} {r : Int32 × Wd} {F : Nat}  {k125 : Wd → Option (Int32 × Wd)} {rc : Wd → Int32 → Int32 → Option (Int32 × Wd)} {w : Wd} {x16 : Int32} {x17 : Int32} (hX : Ok X S cX11_ruled RX11 4 rm_X11_ruled) (hR : HRt X S cX11_ruled .int r)  (hk125 : ∀ (w : Wd), k125 w = some r → V X S w 125 [(0, rf S 88)] []) (hrc : ∀ (w : Wd) (x1 : Int32) (x2 : Int32) , rc w x1 x2 = some r → V X S w 4 [(0, rf S 88), (1, .int x1), (2, .int x2)] [])  (hP : K_X11_ruled_119 F  k125 rc w x16 x17 = some r) : V X S w 119 [(0, rf S 88), (1, .int x16), (2, .int x17)] [] := by
  unfold K_X11_ruled_119 at hP
  obtain ⟨x18, ex18⟩ : ∃ y : Int32, y = x17 + 1 := ⟨_, rfl⟩
  replace hP := lt_r ex18 hP
  refine V_iinc (v := x18) (lv' := [(2, .int x18), (0, rf S 88), (1, .int x16)]) hX dX11_ruled_119 (j := 2) rfl (by decide) (by rw [ex18]; rfl) rfl ?_
  refine V_goto (tgt := 4) hX dX11_ruled_122 (by decide) ?_
  refine V_sub (lv' := [(0, rf S 88), (1, .int x16), (2, .int x18)]) [1, 2, 0] rfl ?_
  exact hrc _ _ _  hP
def K_X11_ruled_115 (F : Nat)  (k125 : Wd → Option (Int32 × Wd)) (rc : Wd → Int32 → Int32 → Option (Int32 × Wd)) (w : Wd) (x9 : Int32) (x10 : Int32) (x11 : Int32) (x12 : Int32) : Option (Int32 × Wd) := gd (inB x12 80) (lt (sI w 101 x12.toNatClampNeg x11) (fun w14 => lt (x9 + 1 : Int32) (fun x15 => K_X11_ruled_119 F  k125 rc w14 x15 x10)))
set_option maxRecDepth 100000 in
set_option maxHeartbeats 4000000 in
theorem sK_X11_ruled_115 {X : Cx} {S : Sx} {r : Int32 × Wd} {F : Nat}  {k125 : Wd → Option (Int32 × Wd)} {rc : Wd → Int32 → Int32 → Option (Int32 × Wd)} {w : Wd} {x9 : Int32} {x10 : Int32} {x11 : Int32} {x12 : Int32} (hX : Ok X S cX11_ruled RX11 4 rm_X11_ruled) (hR : HRt X S cX11_ruled .int r)  (hk125 : ∀ (w : Wd), k125 w = some r → V X S w 125 [(0, rf S 88)] []) (hrc : ∀ (w : Wd) (x1 : Int32) (x2 : Int32) , rc w x1 x2 = some r → V X S w 4 [(0, rf S 88), (1, .int x1), (2, .int x2)] [])  (hP : K_X11_ruled_115 F  k125 rc w x9 x10 x11 x12 = some r) : V X S w 115 [(0, rf S 88), (1, .int x9), (2, .int x10)] [.int x11, .int x12, rf S 101] := by
  unfold K_X11_ruled_115 at hP
  obtain ⟨hi13, hP⟩ := gd_e hP
  refine V_iast hX tb_101 hi13 dX11_ruled_115 (fun w14 ew14 => ?_)
  replace hP := lt_r ew14 hP
  obtain ⟨x15, ex15⟩ : ∃ y : Int32, y = x9 + 1 := ⟨_, rfl⟩
  replace hP := lt_r ex15 hP
  refine V_iinc (v := x15) (lv' := [(1, .int x15), (0, rf S 88), (2, .int x10)]) hX dX11_ruled_116 (j := 1) rfl (by decide) (by rw [ex15]; rfl) rfl ?_
  refine V_sub (lv' := [(0, rf S 88), (1, .int x15), (2, .int x10)]) [1, 0, 2] rfl ?_
  exact sK_X11_ruled_119 hX hR  hk125 hrc  hP
def L_X11_ruled_4 (F : Nat)  (k125 : Wd → Option (Int32 × Wd)) : Nat → Wd → Int32 → Int32 → Option (Int32 × Wd)
  | 0, _, _, _ => none
  | n + 1, w, x1, x2 => (if (gI w 88 22) ≤ x2 then k125 w  else gd (inB x2 80) (lt (gI w 99 x2.toNatClampNeg : Int32) (fun x5 => (if x5 = 3000 then gd (inB (x1 - 1) 80) (gd (inB (x1 - 1) 80) (lt (sI w 101 (x1 - 1).toNatClampNeg (-(gI w 101 (x1 - 1).toNatClampNeg))) (fun w29 => K_X11_ruled_119 F  k125 ((L_X11_ruled_4 F  k125 n)) w29 x1 x2))) else (if x5 < 2000 then (if x5 < 1000 then K_X11_ruled_115 F  k125 ((L_X11_ruled_4 F  k125 n)) w x1 x2 x5 x1 else gd (inB (x5 - 1000) 7) (K_X11_ruled_115 F  k125 ((L_X11_ruled_4 F  k125 n)) w x1 x2 (gI w 102 (x5 - 1000).toNatClampNeg) x1)) else lt (x1 + (-1) : Int32) (fun x20 => gd (inB (x20 - 1) 80) (gd (inB x20 80) (bnd (P_X11_worked F w (x5 - 2000) (gI w 101 (x20 - 1).toNatClampNeg) (gI w 101 x20.toNatClampNeg)) (fun x24 w23 => gd (inB (x20 - 1) 80) (lt (sI w23 101 (x20 - 1).toNatClampNeg x24) (fun w26 => K_X11_ruled_119 F  k125 ((L_X11_ruled_4 F  k125 n)) w26 x20 x2)))))))))))
set_option maxRecDepth 100000 in
set_option maxHeartbeats 4000000 in
theorem sL_X11_ruled_4 {X : Cx} {S : Sx} {r : Int32 × Wd} {F : Nat}  {k125 : Wd → Option (Int32 × Wd)} (hX : Ok X S cX11_ruled RX11 4 rm_X11_ruled) (hR : HRt X S cX11_ruled .int r)  (hk125 : ∀ (w : Wd), k125 w = some r → V X S w 125 [(0, rf S 88)] []) : ∀ (n : Nat) (w : Wd) (x1 : Int32) (x2 : Int32) , L_X11_ruled_4 F  k125 n w x1 x2 = some r → V X S w 4 [(0, rf S 88), (1, .int x1), (2, .int x2)] [] := by
  intro n
  induction n with
  | zero =>
    intro w x1 x2  hP
    exact nn hP
  | succ n ih =>
    intro w x1 x2  hP
    rw [L_X11_ruled_4] at hP
    refine V_iload_n hX dX11_ruled_4 2 rfl ?_
    refine V_aload_n hX dX11_ruled_5 0 rfl ?_
    refine V_getI hX fk_X11_233 tb_88 (fun _ _ _ => rfl) dX11_ruled_6 ?_
    refine V_icmp_ge (tgt := 125) hX dX11_ruled_9 (by decide) (fun hc3 => ?_) (fun hc3 => ?_)
    · replace hP := ite_t hc3 hP
      refine V_sub (lv' := [(0, rf S 88)]) [0] rfl ?_
      exact hk125 _   hP
    · replace hP := ite_f hc3 hP
      refine V_aload_n hX dX11_ruled_12 0 rfl ?_
      refine V_getF (j := 99) hX fk_X11_41 tb_88 (fun _ _ _ => rfl) dX11_ruled_13 ?_
      refine V_iload_n hX dX11_ruled_16 2 rfl ?_
      obtain ⟨hi4, hP⟩ := gd_e hP
      refine V_iald hX tb_99 hi4 dX11_ruled_17 ?_
      refine V_topi (fun x5 ex5 => ?_)
      replace hP := lt_r ex5 hP
      refine V_istore_n (lv' := [(3, .int x5), (0, rf S 88), (1, .int x1), (2, .int x2)]) hX dX11_ruled_18 (by decide) rfl ?_
      refine V_iload_n hX dX11_ruled_19 0 rfl ?_
      refine V_sipush (v := 3000) hX dX11_ruled_20 (by decide) ?_
      refine V_icmp_ne (tgt := 46) hX dX11_ruled_23 (by decide) (fun hc6 => ?_) (fun hc6 => ?_)
      · replace hP := ite_f hc6 hP
        refine V_iload_n hX dX11_ruled_46 0 rfl ?_
        refine V_sipush (v := 2000) hX dX11_ruled_47 (by decide) ?_
        refine V_icmp_lt (tgt := 89) hX dX11_ruled_50 (by decide) (fun hc7 => ?_) (fun hc7 => ?_)
        · replace hP := ite_t hc7 hP
          refine V_aload_n hX dX11_ruled_89 1 rfl ?_
          refine V_getF (j := 101) hX fk_X11_47 tb_88 (fun _ _ _ => rfl) dX11_ruled_90 ?_
          refine V_iload_n hX dX11_ruled_93 2 rfl ?_
          refine V_iload_n hX dX11_ruled_94 0 rfl ?_
          refine V_sipush (v := 1000) hX dX11_ruled_95 (by decide) ?_
          refine V_icmp_lt (tgt := 114) hX dX11_ruled_98 (by decide) (fun hc8 => ?_) (fun hc8 => ?_)
          · replace hP := ite_t hc8 hP
            refine V_iload_n hX dX11_ruled_114 0 rfl ?_
            refine V_sub (lv' := [(0, rf S 88), (1, .int x1), (2, .int x2)]) [1, 2, 3] rfl ?_
            exact sK_X11_ruled_115 hX hR  hk125 ih  hP
          · replace hP := ite_f hc8 hP
            refine V_aload_n hX dX11_ruled_101 1 rfl ?_
            refine V_getF (j := 102) hX fk_X11_50 tb_88 (fun _ _ _ => rfl) dX11_ruled_102 ?_
            refine V_iload_n hX dX11_ruled_105 0 rfl ?_
            refine V_sipush (v := 1000) hX dX11_ruled_106 (by decide) ?_
            refine V_isub hX dX11_ruled_109 ?_
            obtain ⟨hi19, hP⟩ := gd_e hP
            refine V_iald hX tb_102 hi19 dX11_ruled_110 ?_
            refine V_goto (tgt := 115) hX dX11_ruled_111 (by decide) ?_
            refine V_sub (lv' := [(0, rf S 88), (1, .int x1), (2, .int x2)]) [1, 2, 3] rfl ?_
            exact sK_X11_ruled_115 hX hR  hk125 ih  hP
        · replace hP := ite_f hc7 hP
          obtain ⟨x20, ex20⟩ : ∃ y : Int32, y = x1 + (-1) := ⟨_, rfl⟩
          replace hP := lt_r ex20 hP
          refine V_iinc (v := x20) (lv' := [(1, .int x20), (3, .int x5), (0, rf S 88), (2, .int x2)]) hX dX11_ruled_53 (j := 2) rfl (by decide) (by rw [ex20]; rfl) rfl ?_
          refine V_aload_n hX dX11_ruled_56 2 rfl ?_
          refine V_getF (j := 101) hX fk_X11_47 tb_88 (fun _ _ _ => rfl) dX11_ruled_57 ?_
          refine V_iload_n hX dX11_ruled_60 0 rfl ?_
          refine V_iconst (v := 1) hX dX11_ruled_61 (by decide) ?_
          refine V_isub hX dX11_ruled_62 ?_
          refine V_iload_n hX dX11_ruled_63 1 rfl ?_
          refine V_sipush (v := 2000) hX dX11_ruled_64 (by decide) ?_
          refine V_isub hX dX11_ruled_67 ?_
          refine V_aload_n hX dX11_ruled_68 2 rfl ?_
          refine V_getF (j := 101) hX fk_X11_47 tb_88 (fun _ _ _ => rfl) dX11_ruled_69 ?_
          refine V_iload_n hX dX11_ruled_72 0 rfl ?_
          refine V_iconst (v := 1) hX dX11_ruled_73 (by decide) ?_
          refine V_isub hX dX11_ruled_74 ?_
          obtain ⟨hi21, hP⟩ := gd_e hP
          refine V_iald hX tb_101 hi21 dX11_ruled_75 ?_
          refine V_aload_n hX dX11_ruled_76 2 rfl ?_
          refine V_getF (j := 101) hX fk_X11_47 tb_88 (fun _ _ _ => rfl) dX11_ruled_77 ?_
          refine V_iload_n hX dX11_ruled_80 0 rfl ?_
          obtain ⟨hi22, hP⟩ := gd_e hP
          refine V_iald hX tb_101 hi22 dX11_ruled_81 ?_
          obtain ⟨x24, w23, hcw23, hP⟩ := bnd_e hP
          refine V_callSi (As := [.int (x5 - 2000), .int (gI w 101 (x20 - 1).toNatClampNeg), .int (gI w 101 x20.toNatClampNeg)]) (rest := [.int (x20 - 1), rf S 101]) hX mk_X11_236 nk_X11_worked (fun l => c_X11_worked l S  hcw23) ⟨rfl, rfl, Nat.le_of_ble_eq_true rfl, Nat.le_of_ble_eq_true rfl⟩ rfl rfl (Nat.le_of_ble_eq_true rfl) dX11_ruled_82 ?_
          obtain ⟨hi25, hP⟩ := gd_e hP
          refine V_iast hX tb_101 hi25 dX11_ruled_85 (fun w26 ew26 => ?_)
          replace hP := lt_r ew26 hP
          refine V_goto (tgt := 119) hX dX11_ruled_86 (by decide) ?_
          refine V_sub (lv' := [(0, rf S 88), (1, .int x20), (2, .int x2)]) [2, 0, 3] rfl ?_
          exact sK_X11_ruled_119 hX hR  hk125 ih  hP
      · replace hP := ite_t hc6 hP
        refine V_aload_n hX dX11_ruled_26 1 rfl ?_
        refine V_getF (j := 101) hX fk_X11_47 tb_88 (fun _ _ _ => rfl) dX11_ruled_27 ?_
        refine V_iload_n hX dX11_ruled_30 2 rfl ?_
        refine V_iconst (v := 1) hX dX11_ruled_31 (by decide) ?_
        refine V_isub hX dX11_ruled_32 ?_
        refine V_aload_n hX dX11_ruled_33 1 rfl ?_
        refine V_getF (j := 101) hX fk_X11_47 tb_88 (fun _ _ _ => rfl) dX11_ruled_34 ?_
        refine V_iload_n hX dX11_ruled_37 2 rfl ?_
        refine V_iconst (v := 1) hX dX11_ruled_38 (by decide) ?_
        refine V_isub hX dX11_ruled_39 ?_
        obtain ⟨hi27, hP⟩ := gd_e hP
        refine V_iald hX tb_101 hi27 dX11_ruled_40 ?_
        refine V_ineg hX dX11_ruled_41 ?_
        obtain ⟨hi28, hP⟩ := gd_e hP
        refine V_iast hX tb_101 hi28 dX11_ruled_42 (fun w29 ew29 => ?_)
        replace hP := lt_r ew29 hP
        refine V_goto (tgt := 119) hX dX11_ruled_43 (by decide) ?_
        refine V_sub (lv' := [(0, rf S 88), (1, .int x1), (2, .int x2)]) [1, 2, 3] rfl ?_
        exact sK_X11_ruled_119 hX hR  hk125 ih  hP
def P_X11_ruled (F : Nat) (w : Wd)  : Option (Int32 × Wd) := L_X11_ruled_4 F  (fun w  => (if (gI w 88 22) = 0 then gd (inB 0 7) (gd (inB 1 7) (gd (inB 3 7) (gd (inB 4 7) (some ((((10 * (gI w 102 0)) - (gI w 102 1)) - (3 * (gI w 102 3))) - (gI w 102 4), w))))) else gd (inB 0 80) (some (gI w 101 0, w)))) F w 0 0
set_option maxRecDepth 100000 in
set_option maxHeartbeats 4000000 in
theorem s_X11_ruled {X : Cx} {S : Sx} {r : Int32 × Wd} {F : Nat} {w : Wd}   (hX : Ok X S cX11_ruled RX11 4 rm_X11_ruled) (hR : HRt X S cX11_ruled .int r) (hP : P_X11_ruled F w  = some r) : V X S w 0 [(0, rf S 88)] [] := by
  unfold P_X11_ruled at hP
  refine V_iconst (v := 0) hX dX11_ruled_0 (by decide) ?_
  refine V_istore_n (lv' := [(1, .int 0), (0, rf S 88)]) hX dX11_ruled_1 (by decide) rfl ?_
  refine V_iconst (v := 0) hX dX11_ruled_2 (by decide) ?_
  refine V_istore_n (lv' := [(2, .int 0), (1, .int 0), (0, rf S 88)]) hX dX11_ruled_3 (by decide) rfl ?_
  refine V_sub (lv' := [(0, rf S 88), (1, .int 0), (2, .int 0)]) [2, 1, 0] rfl ?_
  have k36 : ∀ (w : Wd)  , ((if (gI w 88 22) = 0 then gd (inB 0 7) (gd (inB 1 7) (gd (inB 3 7) (gd (inB 4 7) (some ((((10 * (gI w 102 0)) - (gI w 102 1)) - (3 * (gI w 102 3))) - (gI w 102 4), w))))) else gd (inB 0 80) (some (gI w 101 0, w)))) = some r → V X S w 125 [(0, rf S 88)] [] := by
    intro w   hP
    refine V_aload_n hX dX11_ruled_125 0 rfl ?_
    refine V_getI hX fk_X11_233 tb_88 (fun _ _ _ => rfl) dX11_ruled_126 ?_
    refine V_if_ne (tgt := 167) hX dX11_ruled_129 (by decide) (fun hc30 => ?_) (fun hc30 => ?_)
    · replace hP := ite_f hc30 hP
      refine V_aload_n hX dX11_ruled_167 0 rfl ?_
      refine V_getF (j := 101) hX fk_X11_47 tb_88 (fun _ _ _ => rfl) dX11_ruled_168 ?_
      refine V_iconst (v := 0) hX dX11_ruled_171 (by decide) ?_
      obtain ⟨hi31, hP⟩ := gd_e hP
      refine V_iald hX tb_101 hi31 dX11_ruled_172 ?_
      exact hR _ _ _ _ (Option.some.inj hP) rfl dX11_ruled_173
    · replace hP := ite_t hc30 hP
      refine V_bipush (v := 10) hX dX11_ruled_132 (by decide) ?_
      refine V_aload_n hX dX11_ruled_134 0 rfl ?_
      refine V_getF (j := 102) hX fk_X11_50 tb_88 (fun _ _ _ => rfl) dX11_ruled_135 ?_
      refine V_iconst (v := 0) hX dX11_ruled_138 (by decide) ?_
      obtain ⟨hi32, hP⟩ := gd_e hP
      refine V_iald hX tb_102 hi32 dX11_ruled_139 ?_
      refine V_imul hX dX11_ruled_140 ?_
      refine V_aload_n hX dX11_ruled_141 0 rfl ?_
      refine V_getF (j := 102) hX fk_X11_50 tb_88 (fun _ _ _ => rfl) dX11_ruled_142 ?_
      refine V_iconst (v := 1) hX dX11_ruled_145 (by decide) ?_
      obtain ⟨hi33, hP⟩ := gd_e hP
      refine V_iald hX tb_102 hi33 dX11_ruled_146 ?_
      refine V_isub hX dX11_ruled_147 ?_
      refine V_iconst (v := 3) hX dX11_ruled_148 (by decide) ?_
      refine V_aload_n hX dX11_ruled_149 0 rfl ?_
      refine V_getF (j := 102) hX fk_X11_50 tb_88 (fun _ _ _ => rfl) dX11_ruled_150 ?_
      refine V_iconst (v := 3) hX dX11_ruled_153 (by decide) ?_
      obtain ⟨hi34, hP⟩ := gd_e hP
      refine V_iald hX tb_102 hi34 dX11_ruled_154 ?_
      refine V_imul hX dX11_ruled_155 ?_
      refine V_isub hX dX11_ruled_156 ?_
      refine V_aload_n hX dX11_ruled_157 0 rfl ?_
      refine V_getF (j := 102) hX fk_X11_50 tb_88 (fun _ _ _ => rfl) dX11_ruled_158 ?_
      refine V_iconst (v := 4) hX dX11_ruled_161 (by decide) ?_
      obtain ⟨hi35, hP⟩ := gd_e hP
      refine V_iald hX tb_102 hi35 dX11_ruled_162 ?_
      refine V_isub hX dX11_ruled_163 ?_
      refine V_goto (tgt := 173) hX dX11_ruled_164 (by decide) ?_
      exact hR _ _ _ _ (Option.some.inj hP) rfl dX11_ruled_173
  exact sL_X11_ruled_4 hX hR  k36 F _ _ _  hP
theorem c_X11_ruled (l : Launch) (S : Sx) {r : Int32 × Wd} {F : Nat} {w : Wd}   (h : P_X11_ruled F w  = some r) : Met l yX11_ruled (wsg yX11_ruled cX11_ruled 4 (some .int)) rm_X11_ruled (PC S w [rf S 88]) (QCi S r) 0 0 (Aw S) :=
  met_i (by decide) rfl (Nat.le_of_ble_eq_true rfl) ⟨rfl, rfl⟩ (fun X hX hR => s_X11_ruled  hX hR h)

-- MustNotStopModel.sumOf(I[I)I
abbrev rm_X11_sumOf : Room := { frames := 2, cells := 0, slots := 0, locals := 85 }
theorem nk_X11_sumOf : MNk yX11_sumOf RX11 2 := ⟨rfl, by decide, by decide, by decide +kernel⟩
def K_X11_sumOf_32 (F : Nat) (x1 : Int32) (a2 : Nat) (k40 : Wd → Int32 → Option (Int32 × Wd)) (rc : Wd → Int32 → Int32 → Option (Int32 × Wd)) (w : Wd) (x10 : Int32) (x11 : Int32) (x12 : Int32) : Option (Int32 × Wd) := lt (x12 + x11 : Int32) (fun x13 => lt (x10 + 1 : Int32) (fun x14 => rc w x13 x14))
set_option maxRecDepth 100000 in
set_option maxHeartbeats 4000000 in
theorem sK_X11_sumOf_32 {X : Cx} {S : Sx} {r : Int32 × Wd} {F : Nat} {x1 : Int32} {a2 : Nat} {k40 : Wd → Int32 → Option (Int32 × Wd)} {rc : Wd → Int32 → Int32 → Option (Int32 × Wd)} {w : Wd} {x10 : Int32} {x11 : Int32} {x12 : Int32} (hX : Ok X S cX11_sumOf RX11 5 rm_X11_sumOf) (hR : HRt X S cX11_sumOf .int r) (ha2 : isIA a2 = true) (hk40 : ∀ (w : Wd) (x5 : Int32) , k40 w x5 = some r → V X S w 40 [(3, .int x5)] []) (hrc : ∀ (w : Wd) (x3 : Int32) (x4 : Int32) , rc w x3 x4 = some r → V X S w 5 [(0, rf S 88), (1, .int x1), (2, rf S a2), (3, .int x3), (4, .int x4)] [])  (hP : K_X11_sumOf_32 F x1 a2 k40 rc w x10 x11 x12 = some r) : V X S w 32 [(0, rf S 88), (1, .int x1), (2, rf S a2), (4, .int x10)] [.int x11, .int x12] := by
  unfold K_X11_sumOf_32 at hP
  refine V_iadd hX dX11_sumOf_32 ?_
  refine V_topi (fun x13 ex13 => ?_)
  replace hP := lt_r ex13 hP
  refine V_istore_n (lv' := [(3, .int x13), (0, rf S 88), (1, .int x1), (2, rf S a2), (4, .int x10)]) hX dX11_sumOf_33 (by decide) rfl ?_
  obtain ⟨x14, ex14⟩ : ∃ y : Int32, y = x10 + 1 := ⟨_, rfl⟩
  replace hP := lt_r ex14 hP
  refine V_iinc (v := x14) (lv' := [(4, .int x14), (3, .int x13), (0, rf S 88), (1, .int x1), (2, rf S a2)]) hX dX11_sumOf_34 (j := 4) rfl (by decide) (by rw [ex14]; rfl) rfl ?_
  refine V_goto (tgt := 5) hX dX11_sumOf_37 (by decide) ?_
  refine V_sub (lv' := [(0, rf S 88), (1, .int x1), (2, rf S a2), (3, .int x13), (4, .int x14)]) [2, 3, 4, 1, 0] rfl ?_
  exact hrc _ _ _  hP
def L_X11_sumOf_5 (F : Nat) (x1 : Int32) (a2 : Nat) (k40 : Wd → Int32 → Option (Int32 × Wd)) : Nat → Wd → Int32 → Int32 → Option (Int32 × Wd)
  | 0, _, _, _ => none
  | n + 1, w, x3, x4 => (if (gI w 88 3) ≤ x4 then k40 w x3 else bnd (P_X11_has F w x1 x4) (fun x8 w7 => (if x8 = 0 then K_X11_sumOf_32 F x1 a2 k40 ((L_X11_sumOf_5 F x1 a2 k40 n)) w7 x4 0 x3 else gd (inB x4 (alen a2)) (K_X11_sumOf_32 F x1 a2 k40 ((L_X11_sumOf_5 F x1 a2 k40 n)) w7 x4 (gI w7 a2 x4.toNatClampNeg) x3))))
set_option maxRecDepth 100000 in
set_option maxHeartbeats 4000000 in
theorem sL_X11_sumOf_5 {X : Cx} {S : Sx} {r : Int32 × Wd} {F : Nat} {x1 : Int32} {a2 : Nat} {k40 : Wd → Int32 → Option (Int32 × Wd)} (hX : Ok X S cX11_sumOf RX11 5 rm_X11_sumOf) (hR : HRt X S cX11_sumOf .int r) (ha2 : isIA a2 = true) (hk40 : ∀ (w : Wd) (x5 : Int32) , k40 w x5 = some r → V X S w 40 [(3, .int x5)] []) : ∀ (n : Nat) (w : Wd) (x3 : Int32) (x4 : Int32) , L_X11_sumOf_5 F x1 a2 k40 n w x3 x4 = some r → V X S w 5 [(0, rf S 88), (1, .int x1), (2, rf S a2), (3, .int x3), (4, .int x4)] [] := by
  intro n
  induction n with
  | zero =>
    intro w x3 x4  hP
    exact nn hP
  | succ n ih =>
    intro w x3 x4  hP
    rw [L_X11_sumOf_5] at hP
    refine V_iload hX dX11_sumOf_5 4 rfl ?_
    refine V_aload_n hX dX11_sumOf_7 0 rfl ?_
    refine V_getI hX fk_X11_113 tb_88 (fun _ _ _ => rfl) dX11_sumOf_8 ?_
    refine V_icmp_ge (tgt := 40) hX dX11_sumOf_11 (by decide) (fun hc6 => ?_) (fun hc6 => ?_)
    · replace hP := ite_t hc6 hP
      refine V_sub (lv' := [(3, .int x3)]) [3] rfl ?_
      exact hk40 _ _  hP
    · replace hP := ite_f hc6 hP
      refine V_iload_n hX dX11_sumOf_14 3 rfl ?_
      refine V_iload_n hX dX11_sumOf_15 1 rfl ?_
      refine V_iload hX dX11_sumOf_16 4 rfl ?_
      obtain ⟨x8, w7, hcw7, hP⟩ := bnd_e hP
      refine V_callSi (As := [.int x1, .int x4]) (rest := [.int x3]) hX mk_X11_240 nk_X11_has (fun l => c_X11_has l S  hcw7) ⟨rfl, rfl, Nat.le_of_ble_eq_true rfl, Nat.le_of_ble_eq_true rfl⟩ rfl rfl (Nat.le_of_ble_eq_true rfl) dX11_sumOf_18 ?_
      refine V_if_eq (tgt := 31) hX dX11_sumOf_21 (by decide) (fun hc9 => ?_) (fun hc9 => ?_)
      · replace hP := ite_t hc9 hP
        refine V_iconst (v := 0) hX dX11_sumOf_31 (by decide) ?_
        refine V_sub (lv' := [(0, rf S 88), (1, .int x1), (2, rf S a2), (4, .int x4)]) [0, 1, 2, 4] rfl ?_
        exact sK_X11_sumOf_32 hX hR ha2 hk40 ih  hP
      · replace hP := ite_f hc9 hP
        refine V_aload_n hX dX11_sumOf_24 2 rfl ?_
        refine V_iload hX dX11_sumOf_25 4 rfl ?_
        obtain ⟨hi15, hP⟩ := gd_e hP
        refine V_iald hX (tb_IA ha2) hi15 dX11_sumOf_27 ?_
        refine V_goto (tgt := 32) hX dX11_sumOf_28 (by decide) ?_
        refine V_sub (lv' := [(0, rf S 88), (1, .int x1), (2, rf S a2), (4, .int x4)]) [0, 1, 2, 4] rfl ?_
        exact sK_X11_sumOf_32 hX hR ha2 hk40 ih  hP
def P_X11_sumOf (F : Nat) (w : Wd) (x1 : Int32) (a2 : Nat) : Option (Int32 × Wd) := L_X11_sumOf_5 F x1 a2 (fun w x5 => some (x5, w)) F w 0 0
set_option maxRecDepth 100000 in
set_option maxHeartbeats 4000000 in
theorem s_X11_sumOf {X : Cx} {S : Sx} {r : Int32 × Wd} {F : Nat} {w : Wd} {x1 : Int32} {a2 : Nat} (ha2 : isIA a2 = true) (hX : Ok X S cX11_sumOf RX11 5 rm_X11_sumOf) (hR : HRt X S cX11_sumOf .int r) (hP : P_X11_sumOf F w x1 a2 = some r) : V X S w 0 [(0, rf S 88), (1, .int x1), (2, rf S a2)] [] := by
  unfold P_X11_sumOf at hP
  refine V_iconst (v := 0) hX dX11_sumOf_0 (by decide) ?_
  refine V_istore_n (lv' := [(3, .int 0), (0, rf S 88), (1, .int x1), (2, rf S a2)]) hX dX11_sumOf_1 (by decide) rfl ?_
  refine V_iconst (v := 0) hX dX11_sumOf_2 (by decide) ?_
  refine V_istore (lv' := [(4, .int 0), (3, .int 0), (0, rf S 88), (1, .int x1), (2, rf S a2)]) hX dX11_sumOf_3 (by decide) rfl ?_
  refine V_sub (lv' := [(0, rf S 88), (1, .int x1), (2, rf S a2), (3, .int 0), (4, .int 0)]) [2, 3, 4, 1, 0] rfl ?_
  have k16 : ∀ (w : Wd) (x5 : Int32) , (some (x5, w)) = some r → V X S w 40 [(3, .int x5)] [] := by
    intro w x5  hP
    refine V_iload_n hX dX11_sumOf_40 0 rfl ?_
    exact hR _ _ _ _ (Option.some.inj hP) rfl dX11_sumOf_41
  exact sL_X11_sumOf_5 hX hR ha2 k16 F _ _ _  hP
theorem c_X11_sumOf (l : Launch) (S : Sx) {r : Int32 × Wd} {F : Nat} {w : Wd} {x1 : Int32} {a2 : Nat} (ha2 : isIA a2 = true) (h : P_X11_sumOf F w x1 a2 = some r) : Met l yX11_sumOf (wsg yX11_sumOf cX11_sumOf 5 (some .int)) rm_X11_sumOf (PC S w [rf S 88, .int x1, rf S a2]) (QCi S r) 0 0 (Aw S) :=
  met_i (by decide) rfl (Nat.le_of_ble_eq_true rfl) ⟨rfl, rfl⟩ (fun X hX hR => s_X11_sumOf ha2 hX hR h)
