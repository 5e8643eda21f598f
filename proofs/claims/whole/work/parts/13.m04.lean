-- MustNotStop$Past.push(LMustNotStop$Bell;)V
abbrev rm_X4_push : Room := { frames := 2, cells := 0, slots := 0, locals := 86 }
theorem nk_X4_push : MNk yX4_push RX4 1 := ⟨rfl, by decide, by decide, by decide +kernel⟩
def P_X4_push (F : Nat) (w : Wd) (a1 : Nat) : Option (Wd) := (if (gI w 29 1) < 0 then some w else (if (15 : Int32) ≤ (gI w 29 1) then some w else gd (inB (gI w 29 1) 15) (lt (31 + 2 * (gI w 29 1).toNatClampNeg) (fun a5 => gd (isX1 a5) (bnv (P_X1_copy F w a5 a1) (fun w6 => lt (sI w6 29 1 (iremI ((gI w6 29 1) + 1) 15)) (fun w8 => lt (sI w8 29 2 (minI 15 ((gI w8 29 2) + 1))) (fun w9 => some w9))))))))
set_option maxRecDepth 100000 in
set_option maxHeartbeats 4000000 in
theorem s_X4_push {X : Cx} {S : Sx} {r : Wd} {F : Nat} {w : Wd} {a1 : Nat} (ha1 : isX1 a1 = true) (hX : Ok X S cX4_push RX4 2 rm_X4_push) (hR : HRv X S cX4_push r) (hP : P_X4_push F w a1 = some r) : V X S w 0 [(0, rf S 29), (1, rf S a1)] [] := by
  unfold P_X4_push at hP
  refine V_aload_n hX dX4_push_0 0 rfl ?_
  refine V_getI hX fk_X4_17 tb_29 (fun _ _ _ => rfl) dX4_push_1 ?_
  refine V_if_lt (tgt := 60) hX dX4_push_4 (by decide) (fun hc2 => ?_) (fun hc2 => ?_)
  · replace hP := ite_t hc2 hP
    exact hR _ _ _ (Option.some.inj hP) dX4_push_60
  · replace hP := ite_f hc2 hP
    refine V_aload_n hX dX4_push_7 0 rfl ?_
    refine V_getI hX fk_X4_17 tb_29 (fun _ _ _ => rfl) dX4_push_8 ?_
    refine V_aload_n hX dX4_push_11 0 rfl ?_
    refine V_getF (j := 30) hX fk_X4_13 tb_29 (fun _ _ _ => rfl) dX4_push_12 ?_
    refine V_alenB (v := 15) hX tb_30 (by decide) dX4_push_15 ?_
    refine V_icmp_ge (tgt := 60) hX dX4_push_16 (by decide) (fun hc3 => ?_) (fun hc3 => ?_)
    · replace hP := ite_t hc3 hP
      exact hR _ _ _ (Option.some.inj hP) dX4_push_60
    · replace hP := ite_f hc3 hP
      refine V_aload_n hX dX4_push_19 0 rfl ?_
      refine V_getF (j := 30) hX fk_X4_13 tb_29 (fun _ _ _ => rfl) dX4_push_20 ?_
      refine V_aload_n hX dX4_push_23 0 rfl ?_
      refine V_getI hX fk_X4_17 tb_29 (fun _ _ _ => rfl) dX4_push_24 ?_
      obtain ⟨hi4, hP⟩ := gd_e hP
      refine V_aald hX tb_30 hi4 dX4_push_27 ?_
      refine V_topr (fun a5 ea5 => ?_)
      replace hP := lt_r ea5 hP
      obtain ⟨ha5, hP⟩ := gd_e hP
      refine V_aload_n hX dX4_push_28 1 rfl ?_
      obtain ⟨w6, hcw6, hP⟩ := bnv_e hP
      refine V_callVv (As := [rf S a1]) (rest := []) hX mk_X4_25 nk_X1_copy (fun l => c_X1_copy l S ha5 ha1 hcw6) (tb_X1 ha5) rfl ⟨rfl, rfl, Nat.le_of_ble_eq_true rfl, Nat.le_of_ble_eq_true rfl⟩ rfl rfl (Nat.le_of_ble_eq_true rfl) dX4_push_29 ?_
      refine V_aload_n hX dX4_push_32 0 rfl ?_
      refine V_aload_n hX dX4_push_33 0 rfl ?_
      refine V_getI hX fk_X4_17 tb_29 (fun _ _ _ => rfl) dX4_push_34 ?_
      refine V_iconst (v := 1) hX dX4_push_37 (by decide) ?_
      refine V_iadd hX dX4_push_38 ?_
      refine V_bipush (v := 15) hX dX4_push_39 (by decide) ?_
      refine V_irem hX dX4_push_41 (by decide) ?_
      refine V_putI hX fw_X4_17 tb_29 (fun _ _ _ => ⟨Nat.le_of_ble_eq_true rfl, rfl⟩) dX4_push_42 (fun w8 ew8 => ?_)
      replace hP := lt_r ew8 hP
      refine V_aload_n hX dX4_push_45 0 rfl ?_
      refine V_bipush (v := 15) hX dX4_push_46 (by decide) ?_
      refine V_aload_n hX dX4_push_48 0 rfl ?_
      refine V_getI hX fk_X4_21 tb_29 (fun _ _ _ => rfl) dX4_push_49 ?_
      refine V_iconst (v := 1) hX dX4_push_52 (by decide) ?_
      refine V_iadd hX dX4_push_53 ?_
      refine V_min hX mk_X4_29 ⟨Nat.le_of_ble_eq_true rfl, Nat.le_of_ble_eq_true rfl⟩ dX4_push_54 ?_
      refine V_putI hX fw_X4_21 tb_29 (fun _ _ _ => ⟨Nat.le_of_ble_eq_true rfl, rfl⟩) dX4_push_57 (fun w9 ew9 => ?_)
      replace hP := lt_r ew9 hP
      exact hR _ _ _ (Option.some.inj hP) dX4_push_60
theorem c_X4_push (l : Launch) (S : Sx) {r : Wd} {F : Nat} {w : Wd} {a1 : Nat} (ha1 : isX1 a1 = true) (h : P_X4_push F w a1 = some r) : Met l yX4_push (wsg yX4_push cX4_push 2 none) rm_X4_push (PC S w [rf S 29, rf S a1]) (QCv S r) 0 0 (Aw S) :=
  met_v (by decide) rfl (Nat.le_of_ble_eq_true rfl) ⟨rfl, rfl⟩ (fun X hX hR => s_X4_push ha1 hX hR h)

-- MustNotStop$Past.pop(LMustNotStop$Bell;)I
abbrev rm_X4_pop : Room := { frames := 2, cells := 0, slots := 0, locals := 86 }
theorem nk_X4_pop : MNk yX4_pop RX4 1 := ⟨rfl, by decide, by decide, by decide +kernel⟩
def P_X4_pop (F : Nat) (w : Wd) (a1 : Nat) : Option (Int32 × Wd) := lt (iremI (((gI w 29 1) + 15) - 1) 15 : Int32) (fun x3 => (if (gI w 29 2) ≤ 0 then some ((-1), w) else (if x3 < 0 then some ((-1), w) else (if x3 < 15 then gd (inB x3 15) (lt (31 + 2 * x3.toNatClampNeg) (fun a8 => gd (isX1 a8) (bnv (P_X1_copy F w a1 a8) (fun w9 => lt (sI w9 29 1 x3) (fun w10 => lt (sI w10 29 2 ((gI w10 29 2) - 1)) (fun w11 => some (gI w11 29 2, w11))))))) else some ((-1), w)))))
set_option maxRecDepth 100000 in
set_option maxHeartbeats 4000000 in
theorem s_X4_pop {X : Cx} {S : Sx} {r : Int32 × Wd} {F : Nat} {w : Wd} {a1 : Nat} (ha1 : isX1 a1 = true) (hX : Ok X S cX4_pop RX4 3 rm_X4_pop) (hR : HRt X S cX4_pop .int r) (hP : P_X4_pop F w a1 = some r) : V X S w 0 [(0, rf S 29), (1, rf S a1)] [] := by
  unfold P_X4_pop at hP
  refine V_aload_n hX dX4_pop_0 0 rfl ?_
  refine V_getI hX fk_X4_17 tb_29 (fun _ _ _ => rfl) dX4_pop_1 ?_
  refine V_bipush (v := 15) hX dX4_pop_4 (by decide) ?_
  refine V_iadd hX dX4_pop_6 ?_
  refine V_iconst (v := 1) hX dX4_pop_7 (by decide) ?_
  refine V_isub hX dX4_pop_8 ?_
  refine V_bipush (v := 15) hX dX4_pop_9 (by decide) ?_
  refine V_irem hX dX4_pop_11 (by decide) ?_
  refine V_topi (fun x3 ex3 => ?_)
  replace hP := lt_r ex3 hP
  refine V_istore_n (lv' := [(2, .int x3), (0, rf S 29), (1, rf S a1)]) hX dX4_pop_12 (by decide) rfl ?_
  refine V_aload_n hX dX4_pop_13 1 rfl ?_
  refine V_getI hX fk_X4_21 tb_29 (fun _ _ _ => rfl) dX4_pop_14 ?_
  refine V_if_le (tgt := 33) hX dX4_pop_17 (by decide) (fun hc4 => ?_) (fun hc4 => ?_)
  · replace hP := ite_t hc4 hP
    refine V_iconst (v := (-1)) hX dX4_pop_33 (by decide) ?_
    exact hR _ _ _ _ (Option.some.inj hP) rfl dX4_pop_34
  · replace hP := ite_f hc4 hP
    refine V_iload_n hX dX4_pop_20 0 rfl ?_
    refine V_if_lt (tgt := 33) hX dX4_pop_21 (by decide) (fun hc5 => ?_) (fun hc5 => ?_)
    · replace hP := ite_t hc5 hP
      refine V_iconst (v := (-1)) hX dX4_pop_33 (by decide) ?_
      exact hR _ _ _ _ (Option.some.inj hP) rfl dX4_pop_34
    · replace hP := ite_f hc5 hP
      refine V_iload_n hX dX4_pop_24 0 rfl ?_
      refine V_aload_n hX dX4_pop_25 1 rfl ?_
      refine V_getF (j := 30) hX fk_X4_13 tb_29 (fun _ _ _ => rfl) dX4_pop_26 ?_
      refine V_alenB (v := 15) hX tb_30 (by decide) dX4_pop_29 ?_
      refine V_icmp_lt (tgt := 35) hX dX4_pop_30 (by decide) (fun hc6 => ?_) (fun hc6 => ?_)
      · replace hP := ite_t hc6 hP
        refine V_aload_n hX dX4_pop_35 2 rfl ?_
        refine V_aload_n hX dX4_pop_36 1 rfl ?_
        refine V_getF (j := 30) hX fk_X4_13 tb_29 (fun _ _ _ => rfl) dX4_pop_37 ?_
        refine V_iload_n hX dX4_pop_40 0 rfl ?_
        obtain ⟨hi7, hP⟩ := gd_e hP
        refine V_aald hX tb_30 hi7 dX4_pop_41 ?_
        refine V_topr (fun a8 ea8 => ?_)
        replace hP := lt_r ea8 hP
        obtain ⟨ha8, hP⟩ := gd_e hP
        obtain ⟨w9, hcw9, hP⟩ := bnv_e hP
        refine V_callVv (As := [rf S a8]) (rest := []) hX mk_X4_25 nk_X1_copy (fun l => c_X1_copy l S ha1 ha8 hcw9) (tb_X1 ha1) rfl ⟨rfl, rfl, Nat.le_of_ble_eq_true rfl, Nat.le_of_ble_eq_true rfl⟩ rfl rfl (Nat.le_of_ble_eq_true rfl) dX4_pop_42 ?_
        refine V_aload_n hX dX4_pop_45 1 rfl ?_
        refine V_iload_n hX dX4_pop_46 0 rfl ?_
        refine V_putI hX fw_X4_17 tb_29 (fun _ _ _ => ⟨Nat.le_of_ble_eq_true rfl, rfl⟩) dX4_pop_47 (fun w10 ew10 => ?_)
        replace hP := lt_r ew10 hP
        refine V_aload_n hX dX4_pop_50 1 rfl ?_
        refine V_dup hX dX4_pop_51 rfl ?_
        refine V_getI hX fk_X4_21 tb_29 (fun _ _ _ => rfl) dX4_pop_52 ?_
        refine V_iconst (v := 1) hX dX4_pop_55 (by decide) ?_
        refine V_isub hX dX4_pop_56 ?_
        refine V_putI hX fw_X4_21 tb_29 (fun _ _ _ => ⟨Nat.le_of_ble_eq_true rfl, rfl⟩) dX4_pop_57 (fun w11 ew11 => ?_)
        replace hP := lt_r ew11 hP
        refine V_aload_n hX dX4_pop_60 1 rfl ?_
        refine V_getI hX fk_X4_21 tb_29 (fun _ _ _ => rfl) dX4_pop_61 ?_
        exact hR _ _ _ _ (Option.some.inj hP) rfl dX4_pop_64
      · replace hP := ite_f hc6 hP
        refine V_iconst (v := (-1)) hX dX4_pop_33 (by decide) ?_
        exact hR _ _ _ _ (Option.some.inj hP) rfl dX4_pop_34
theorem c_X4_pop (l : Launch) (S : Sx) {r : Int32 × Wd} {F : Nat} {w : Wd} {a1 : Nat} (ha1 : isX1 a1 = true) (h : P_X4_pop F w a1 = some r) : Met l yX4_pop (wsg yX4_pop cX4_pop 3 (some .int)) rm_X4_pop (PC S w [rf S 29, rf S a1]) (QCi S r) 0 0 (Aw S) :=
  met_i (by decide) rfl (Nat.le_of_ble_eq_true rfl) ⟨rfl, rfl⟩ (fun X hX hR => s_X4_pop ha1 hX hR h)

-- MustNotStop$Roll.secondOf(I)I
abbrev rm_X5_secondOf : Room := { frames := 2, cells := 0, slots := 0, locals := 85 }
theorem nk_X5_secondOf : MNk yX5_secondOf RX5 1 := ⟨rfl, by decide, by decide, by decide +kernel⟩
def P_X5_secondOf (F : Nat) (w : Wd) (a1 : Nat) (x2 : Int32) : Option (Int32 × Wd) := bnd (P_X5_has F w a1 x2) (fun x4 w3 => (if x4 = 0 then some (0, w3) else gd (inB x2 8) (some (gI w3 (a1 + 2) x2.toNatClampNeg, w3))))
set_option maxRecDepth 100000 in
set_option maxHeartbeats 4000000 in
theorem s_X5_secondOf {X : Cx} {S : Sx} {r : Int32 × Wd} {F : Nat} {w : Wd} {a1 : Nat} {x2 : Int32} (ha1 : isX5 a1 = true) (hX : Ok X S cX5_secondOf RX5 2 rm_X5_secondOf) (hR : HRt X S cX5_secondOf .int r) (hP : P_X5_secondOf F w a1 x2 = some r) : V X S w 0 [(0, rf S a1), (1, .int x2)] [] := by
  unfold P_X5_secondOf at hP
  refine V_aload_n hX dX5_secondOf_0 0 rfl ?_
  refine V_iload_n hX dX5_secondOf_1 1 rfl ?_
  obtain ⟨x4, w3, hcw3, hP⟩ := bnd_e hP
  refine V_callVi (As := [.int x2]) (rest := []) hX mk_X5_22 nk_X5_has (fun l => c_X5_has l S ha1 hcw3) (tb_X5 ha1) rfl ⟨rfl, rfl, Nat.le_of_ble_eq_true rfl, Nat.le_of_ble_eq_true rfl⟩ rfl rfl (Nat.le_of_ble_eq_true rfl) dX5_secondOf_2 ?_
  refine V_if_eq (tgt := 17) hX dX5_secondOf_5 (by decide) (fun hc5 => ?_) (fun hc5 => ?_)
  · replace hP := ite_t hc5 hP
    refine V_iconst (v := 0) hX dX5_secondOf_17 (by decide) ?_
    exact hR _ _ _ _ (Option.some.inj hP) rfl dX5_secondOf_18
  · replace hP := ite_f hc5 hP
    refine V_aload_n hX dX5_secondOf_8 0 rfl ?_
    refine V_getF (j := a1 + 2) hX fk_X5_15 (tb_X5 ha1) (fun _ _ _ => rfl) dX5_secondOf_9 ?_
    refine V_iload_n hX dX5_secondOf_12 1 rfl ?_
    obtain ⟨hi6, hP⟩ := gd_e hP
    refine V_iald hX (tb_X5_2 ha1) hi6 dX5_secondOf_13 ?_
    refine V_goto (tgt := 18) hX dX5_secondOf_14 (by decide) ?_
    exact hR _ _ _ _ (Option.some.inj hP) rfl dX5_secondOf_18
theorem c_X5_secondOf (l : Launch) (S : Sx) {r : Int32 × Wd} {F : Nat} {w : Wd} {a1 : Nat} {x2 : Int32} (ha1 : isX5 a1 = true) (h : P_X5_secondOf F w a1 x2 = some r) : Met l yX5_secondOf (wsg yX5_secondOf cX5_secondOf 2 (some .int)) rm_X5_secondOf (PC S w [rf S a1, .int x2]) (QCi S r) 0 0 (Aw S) :=
  met_i (by decide) rfl (Nat.le_of_ble_eq_true rfl) ⟨rfl, rfl⟩ (fun X hX hR => s_X5_secondOf ha1 hX hR h)

-- MustNotStop$Roll.secondsOf(I)I
abbrev rm_X5_secondsOf : Room := { frames := 3, cells := 0, slots := 0, locals := 106 }
theorem nk_X5_secondsOf : MNk yX5_secondsOf RX5 1 := ⟨rfl, by decide, by decide, by decide +kernel⟩
def L_X5_secondsOf_4 (F : Nat) (a1 : Nat) (x2 : Int32) (k30 : Wd → Int32 → Option (Int32 × Wd)) : Nat → Wd → Int32 → Int32 → Option (Int32 × Wd)
  | 0, _, _, _ => none
  | n + 1, w, x3, x4 => (if (8 : Int32) ≤ x4 then k30 w x3 else bnd (P_X5_secondOf F w a1 x4) (fun x8 w7 => lt (x3 + (((ishrI x2 x4) &&& 1) * x8) : Int32) (fun x9 => lt (x4 + 1 : Int32) (fun x10 => L_X5_secondsOf_4 F a1 x2 k30 n w7 x9 x10))))
set_option maxRecDepth 100000 in
set_option maxHeartbeats 4000000 in
theorem sL_X5_secondsOf_4 {X : Cx} {S : Sx} {r : Int32 × Wd} {F : Nat} {a1 : Nat} {x2 : Int32} {k30 : Wd → Int32 → Option (Int32 × Wd)} (hX : Ok X S cX5_secondsOf RX5 4 rm_X5_secondsOf) (hR : HRt X S cX5_secondsOf .int r) (ha1 : isX5 a1 = true) (hk30 : ∀ (w : Wd) (x5 : Int32) , k30 w x5 = some r → V X S w 30 [(2, .int x5)] []) : ∀ (n : Nat) (w : Wd) (x3 : Int32) (x4 : Int32) , L_X5_secondsOf_4 F a1 x2 k30 n w x3 x4 = some r → V X S w 4 [(0, rf S a1), (1, .int x2), (2, .int x3), (3, .int x4)] [] := by
  intro n
  induction n with
  | zero =>
    intro w x3 x4  hP
    exact nn hP
  | succ n ih =>
    intro w x3 x4  hP
    rw [L_X5_secondsOf_4] at hP
    refine V_iload_n hX dX5_secondsOf_4 3 rfl ?_
    refine V_bipush (v := 8) hX dX5_secondsOf_5 (by decide) ?_
    refine V_icmp_ge (tgt := 30) hX dX5_secondsOf_7 (by decide) (fun hc6 => ?_) (fun hc6 => ?_)
    · replace hP := ite_t hc6 hP
      refine V_sub (lv' := [(2, .int x3)]) [2] rfl ?_
      exact hk30 _ _  hP
    · replace hP := ite_f hc6 hP
      refine V_iload_n hX dX5_secondsOf_10 2 rfl ?_
      refine V_iload_n hX dX5_secondsOf_11 1 rfl ?_
      refine V_iload_n hX dX5_secondsOf_12 3 rfl ?_
      refine V_ishr hX dX5_secondsOf_13 ?_
      refine V_iconst (v := 1) hX dX5_secondsOf_14 (by decide) ?_
      refine V_iand hX dX5_secondsOf_15 ?_
      refine V_aload_n hX dX5_secondsOf_16 0 rfl ?_
      refine V_iload_n hX dX5_secondsOf_17 3 rfl ?_
      obtain ⟨x8, w7, hcw7, hP⟩ := bnd_e hP
      refine V_callVi (As := [.int x4]) (rest := [.int ((ishrI x2 x4) &&& 1), .int x3]) hX mk_X5_26 nk_X5_secondOf (fun l => c_X5_secondOf l S ha1 hcw7) (tb_X5 ha1) rfl ⟨rfl, rfl, Nat.le_of_ble_eq_true rfl, Nat.le_of_ble_eq_true rfl⟩ rfl rfl (Nat.le_of_ble_eq_true rfl) dX5_secondsOf_18 ?_
      refine V_imul hX dX5_secondsOf_21 ?_
      refine V_iadd hX dX5_secondsOf_22 ?_
      refine V_topi (fun x9 ex9 => ?_)
      replace hP := lt_r ex9 hP
      refine V_istore_n (lv' := [(2, .int x9), (0, rf S a1), (1, .int x2), (3, .int x4)]) hX dX5_secondsOf_23 (by decide) rfl ?_
      obtain ⟨x10, ex10⟩ : ∃ y : Int32, y = x4 + 1 := ⟨_, rfl⟩
      replace hP := lt_r ex10 hP
      refine V_iinc (v := x10) (lv' := [(3, .int x10), (2, .int x9), (0, rf S a1), (1, .int x2)]) hX dX5_secondsOf_24 (j := 3) rfl (by decide) (by rw [ex10]; rfl) rfl ?_
      refine V_goto (tgt := 4) hX dX5_secondsOf_27 (by decide) ?_
      refine V_sub (lv' := [(0, rf S a1), (1, .int x2), (2, .int x9), (3, .int x10)]) [2, 3, 1, 0] rfl ?_
      exact ih _ _ _  hP
def P_X5_secondsOf (F : Nat) (w : Wd) (a1 : Nat) (x2 : Int32) : Option (Int32 × Wd) := L_X5_secondsOf_4 F a1 x2 (fun w x5 => some (x5, w)) F w 0 0
set_option maxRecDepth 100000 in
set_option maxHeartbeats 4000000 in
theorem s_X5_secondsOf {X : Cx} {S : Sx} {r : Int32 × Wd} {F : Nat} {w : Wd} {a1 : Nat} {x2 : Int32} (ha1 : isX5 a1 = true) (hX : Ok X S cX5_secondsOf RX5 4 rm_X5_secondsOf) (hR : HRt X S cX5_secondsOf .int r) (hP : P_X5_secondsOf F w a1 x2 = some r) : V X S w 0 [(0, rf S a1), (1, .int x2)] [] := by
  unfold P_X5_secondsOf at hP
  refine V_iconst (v := 0) hX dX5_secondsOf_0 (by decide) ?_
  refine V_istore_n (lv' := [(2, .int 0), (0, rf S a1), (1, .int x2)]) hX dX5_secondsOf_1 (by decide) rfl ?_
  refine V_iconst (v := 0) hX dX5_secondsOf_2 (by decide) ?_
  refine V_istore_n (lv' := [(3, .int 0), (2, .int 0), (0, rf S a1), (1, .int x2)]) hX dX5_secondsOf_3 (by decide) rfl ?_
  refine V_sub (lv' := [(0, rf S a1), (1, .int x2), (2, .int 0), (3, .int 0)]) [2, 3, 1, 0] rfl ?_
  have k11 : ∀ (w : Wd) (x5 : Int32) , (some (x5, w)) = some r → V X S w 30 [(2, .int x5)] [] := by
    intro w x5  hP
    refine V_iload_n hX dX5_secondsOf_30 0 rfl ?_
    exact hR _ _ _ _ (Option.some.inj hP) rfl dX5_secondsOf_31
  exact sL_X5_secondsOf_4 hX hR ha1 k11 F _ _ _  hP
theorem c_X5_secondsOf (l : Launch) (S : Sx) {r : Int32 × Wd} {F : Nat} {w : Wd} {a1 : Nat} {x2 : Int32} (ha1 : isX5 a1 = true) (h : P_X5_secondsOf F w a1 x2 = some r) : Met l yX5_secondsOf (wsg yX5_secondsOf cX5_secondsOf 4 (some .int)) rm_X5_secondsOf (PC S w [rf S a1, .int x2]) (QCi S r) 0 0 (Aw S) :=
  met_i (by decide) rfl (Nat.le_of_ble_eq_true rfl) ⟨rfl, rfl⟩ (fun X hX hR => s_X5_secondsOf ha1 hX hR h)

-- MustNotStop$Roll.all()I
abbrev rm_X5_all : Room := { frames := 1, cells := 0, slots := 0, locals := 64 }
theorem nk_X5_all : MNk yX5_all RX5 0 := ⟨rfl, by decide, by decide, by decide +kernel⟩
def P_X5_all (F : Nat) (w : Wd) (a1 : Nat) : Option (Int32 × Wd) := some ((ishlI 1 (gI w a1 2)) - 1, w)
set_option maxRecDepth 100000 in
set_option maxHeartbeats 4000000 in
theorem s_X5_all {X : Cx} {S : Sx} {r : Int32 × Wd} {F : Nat} {w : Wd} {a1 : Nat} (ha1 : isX5 a1 = true) (hX : Ok X S cX5_all RX5 1 rm_X5_all) (hR : HRt X S cX5_all .int r) (hP : P_X5_all F w a1 = some r) : V X S w 0 [(0, rf S a1)] [] := by
  unfold P_X5_all at hP
  refine V_iconst (v := 1) hX dX5_all_0 (by decide) ?_
  refine V_aload_n hX dX5_all_1 0 rfl ?_
  refine V_getI hX fk_X5_18 (tb_X5 ha1) (fun _ _ _ => rfl) dX5_all_2 ?_
  refine V_ishl hX dX5_all_5 ?_
  refine V_iconst (v := 1) hX dX5_all_6 (by decide) ?_
  refine V_isub hX dX5_all_7 ?_
  exact hR _ _ _ _ (Option.some.inj hP) rfl dX5_all_8
theorem c_X5_all (l : Launch) (S : Sx) {r : Int32 × Wd} {F : Nat} {w : Wd} {a1 : Nat} (ha1 : isX5 a1 = true) (h : P_X5_all F w a1 = some r) : Met l yX5_all (wsg yX5_all cX5_all 1 (some .int)) rm_X5_all (PC S w [rf S a1]) (QCi S r) 0 0 (Aw S) :=
  met_i (by decide) rfl (Nat.le_of_ble_eq_true rfl) ⟨rfl, rfl⟩ (fun X hX hR => s_X5_all ha1 hX hR h)

-- MustNotStop$Roll.fits(II)Z
abbrev rm_X5_fits : Room := { frames := 1, cells := 0, slots := 0, locals := 64 }
theorem nk_X5_fits : MNk yX5_fits RX5 2 := ⟨rfl, by decide, by decide, by decide +kernel⟩
def P_X5_fits (F : Nat) (w : Wd) (a1 : Nat) (x2 : Int32) (x3 : Int32) : Option (Int32 × Wd) := (if (iremI x2 3) = 0 then (if x3 < 49 then some (0, w) else (if (57 : Int32) < x3 then some (0, w) else lt (if (8 : Int32) ≤ ((gI w a1 2) + (x2 / 3)) then 0 else 1 : Int32) (fun x10 => gd (isZO x10) (some (x10, w))))) else (if (iremI x2 3) = 1 then lt (if x3 < 48 then 0 else if (57 : Int32) < x3 then 0 else 1 : Int32) (fun x16 => gd (isZO x16) (some (x16, w))) else lt (if x3 = 59 then 1 else 0 : Int32) (fun x20 => gd (isZO x20) (some (x20, w)))))
set_option maxRecDepth 100000 in
set_option maxHeartbeats 4000000 in
theorem s_X5_fits {X : Cx} {S : Sx} {r : Int32 × Wd} {F : Nat} {w : Wd} {a1 : Nat} {x2 : Int32} {x3 : Int32} (ha1 : isX5 a1 = true) (hX : Ok X S cX5_fits RX5 3 rm_X5_fits) (hR : HRt X S cX5_fits .boolean r) (hP : P_X5_fits F w a1 x2 x3 = some r) : V X S w 0 [(0, rf S a1), (1, .int x2), (2, .int x3)] [] := by
  unfold P_X5_fits at hP
  refine V_iload_n hX dX5_fits_0 1 rfl ?_
  refine V_iconst (v := 3) hX dX5_fits_1 (by decide) ?_
  refine V_irem hX dX5_fits_2 (by decide) ?_
  by_cases hc5 : iremI x2 3 = 0
  · replace hP := ite_t hc5 hP
    refine V_lookup (tgt := 28) hX dX5_fits_3 (by decide) (by rw [hc5] <;> rfl) (by decide) ?_
    refine V_iload_n hX dX5_fits_28 2 rfl ?_
    refine V_bipush (v := 49) hX dX5_fits_29 (by decide) ?_
    refine V_icmp_lt (tgt := 57) hX dX5_fits_31 (by decide) (fun hc6 => ?_) (fun hc6 => ?_)
    · replace hP := ite_t hc6 hP
      refine V_iconst (v := 0) hX dX5_fits_57 (by decide) ?_
      exact hR _ _ _ _ (Option.some.inj hP) rfl dX5_fits_58
    · replace hP := ite_f hc6 hP
      refine V_iload_n hX dX5_fits_34 2 rfl ?_
      refine V_bipush (v := 57) hX dX5_fits_35 (by decide) ?_
      refine V_icmp_gt (tgt := 57) hX dX5_fits_37 (by decide) (fun hc7 => ?_) (fun hc7 => ?_)
      · replace hP := ite_t hc7 hP
        refine V_iconst (v := 0) hX dX5_fits_57 (by decide) ?_
        exact hR _ _ _ _ (Option.some.inj hP) rfl dX5_fits_58
      · replace hP := ite_f hc7 hP
        refine V_aload_n hX dX5_fits_40 0 rfl ?_
        refine V_getI hX fk_X5_18 (tb_X5 ha1) (fun _ _ _ => rfl) dX5_fits_41 ?_
        refine V_iload_n hX dX5_fits_44 1 rfl ?_
        refine V_iconst (v := 3) hX dX5_fits_45 (by decide) ?_
        refine V_idiv hX dX5_fits_46 (by decide) ?_
        refine V_iadd hX dX5_fits_47 ?_
        refine V_bipush (v := 8) hX dX5_fits_48 (by decide) ?_
        have k12 : V X S w 58 [(0, rf S a1), (1, .int x2), (2, .int x3)] [.int (if (8 : Int32) ≤ ((gI w a1 2) + (x2 / 3)) then 0 else 1)] := by
          refine V_topi (fun x10 ex10 => ?_)
          replace hP := lt_r ex10 hP
          obtain ⟨hz11, hP⟩ := gd_e hP
          exact hR _ _ _ _ (Option.some.inj hP) (nar_z hz11) dX5_fits_58
        refine V_icmp_ge (tgt := 57) hX dX5_fits_50 (by decide) (fun hc9 => ?_) (fun hc9 => ?_)
        · refine V_iconst (v := 0) hX dX5_fits_57 (by decide) ?_
          refine V_selT (c := (8 : Int32) ≤ ((gI w a1 2) + (x2 / 3))) (b := 1) hc9 ?_
          exact k12
        · refine V_iconst (v := 1) hX dX5_fits_53 (by decide) ?_
          refine V_goto (tgt := 58) hX dX5_fits_54 (by decide) ?_
          refine V_selF (c := (8 : Int32) ≤ ((gI w a1 2) + (x2 / 3))) (a := 0) hc9 ?_
          exact k12
  replace hP := ite_f hc5 hP
  by_cases hc13 : iremI x2 3 = 1
  · replace hP := ite_t hc13 hP
    refine V_lookup (tgt := 59) hX dX5_fits_3 (by decide) (by rw [hc13] <;> rfl) (by decide) ?_
    refine V_iload_n hX dX5_fits_59 2 rfl ?_
    refine V_bipush (v := 48) hX dX5_fits_60 (by decide) ?_
    have k18 : V X S w 76 [(0, rf S a1), (1, .int x2), (2, .int x3)] [.int (if x3 < 48 then 0 else if (57 : Int32) < x3 then 0 else 1)] := by
      refine V_topi (fun x16 ex16 => ?_)
      replace hP := lt_r ex16 hP
      obtain ⟨hz17, hP⟩ := gd_e hP
      exact hR _ _ _ _ (Option.some.inj hP) (nar_z hz17) dX5_fits_76
    refine V_icmp_lt (tgt := 75) hX dX5_fits_62 (by decide) (fun hc15 => ?_) (fun hc15 => ?_)
    · refine V_iconst (v := 0) hX dX5_fits_75 (by decide) ?_
      refine V_selT (c := x3 < 48) (b := if (57 : Int32) < x3 then 0 else 1) hc15 ?_
      exact k18
    · refine V_iload_n hX dX5_fits_65 2 rfl ?_
      refine V_bipush (v := 57) hX dX5_fits_66 (by decide) ?_
      refine V_icmp_gt (tgt := 75) hX dX5_fits_68 (by decide) (fun hc14 => ?_) (fun hc14 => ?_)
      · refine V_iconst (v := 0) hX dX5_fits_75 (by decide) ?_
        refine V_selT (c := (57 : Int32) < x3) (b := 1) hc14 ?_
        refine V_selF (c := x3 < 48) (a := 0) hc15 ?_
        exact k18
      · refine V_iconst (v := 1) hX dX5_fits_71 (by decide) ?_
        refine V_goto (tgt := 76) hX dX5_fits_72 (by decide) ?_
        refine V_selF (c := (57 : Int32) < x3) (a := 0) hc14 ?_
        refine V_selF (c := x3 < 48) (a := 0) hc15 ?_
        exact k18
  replace hP := ite_f hc13 hP
  refine V_lookup (tgt := 77) hX dX5_fits_3 (by decide) (lk_out (by
      intro q hq
      simp only [List.mem_cons, List.not_mem_nil, or_false] at hq
      rcases hq with rfl | rfl
      · exact fun e => hc5 (i32_ext (e.trans rfl))
      · exact fun e => hc13 (i32_ext (e.trans rfl))
      )) (by decide) ?_
  refine V_iload_n hX dX5_fits_77 2 rfl ?_
  refine V_bipush (v := 59) hX dX5_fits_78 (by decide) ?_
  have k22 : V X S w 88 [(0, rf S a1), (1, .int x2), (2, .int x3)] [.int (if x3 = 59 then 1 else 0)] := by
    refine V_topi (fun x20 ex20 => ?_)
    replace hP := lt_r ex20 hP
    obtain ⟨hz21, hP⟩ := gd_e hP
    exact hR _ _ _ _ (Option.some.inj hP) (nar_z hz21) dX5_fits_88
  refine V_icmp_ne (tgt := 87) hX dX5_fits_80 (by decide) (fun hc19 => ?_) (fun hc19 => ?_)
  · refine V_iconst (v := 0) hX dX5_fits_87 (by decide) ?_
    refine V_selF (c := x3 = 59) (a := 1) hc19 ?_
    exact k22
  · refine V_iconst (v := 1) hX dX5_fits_83 (by decide) ?_
    refine V_goto (tgt := 88) hX dX5_fits_84 (by decide) ?_
    refine V_selT (c := x3 = 59) (b := 0) hc19 ?_
    exact k22
theorem c_X5_fits (l : Launch) (S : Sx) {r : Int32 × Wd} {F : Nat} {w : Wd} {a1 : Nat} {x2 : Int32} {x3 : Int32} (ha1 : isX5 a1 = true) (h : P_X5_fits F w a1 x2 x3 = some r) : Met l yX5_fits (wsg yX5_fits cX5_fits 3 (some .boolean)) rm_X5_fits (PC S w [rf S a1, .int x2, .int x3]) (QCi S r) 0 0 (Aw S) :=
  met_i (by decide) rfl (Nat.le_of_ble_eq_true rfl) ⟨rfl, rfl⟩ (fun X hX hR => s_X5_fits ha1 hX hR h)

-- MustNotStop$Roll.faultIn(LMustNotStop$Text;)I
abbrev rm_X5_faultIn : Room := { frames := 2, cells := 0, slots := 0, locals := 86 }
theorem nk_X5_faultIn : MNk yX5_faultIn RX5 1 := ⟨rfl, by decide, by decide, by decide +kernel⟩
def L_X5_faultIn_12 (F : Nat) (a1 : Nat) (x3 : Int32) (k38 : Wd → Option (Int32 × Wd)) : Nat → Wd → Int32 → Option (Int32 × Wd)
  | 0, _, _ => none
  | n + 1, w, x4 => (if x3 ≤ x4 then k38 w  else bnd (P_X8_at F w x4) (fun x7 w6 => bnd (P_X5_fits F w6 a1 x4 x7) (fun x9 w8 => (if x9 = 0 then some (x4, w8) else lt (x4 + 1 : Int32) (fun x11 => L_X5_faultIn_12 F a1 x3 k38 n w8 x11)))))
set_option maxRecDepth 100000 in
set_option maxHeartbeats 4000000 in
theorem sL_X5_faultIn_12 {X : Cx} {S : Sx} {r : Int32 × Wd} {F : Nat} {a1 : Nat} {x3 : Int32} {k38 : Wd → Option (Int32 × Wd)} (hX : Ok X S cX5_faultIn RX5 4 rm_X5_faultIn) (hR : HRt X S cX5_faultIn .int r) (ha1 : isX5 a1 = true) (hk38 : ∀ (w : Wd), k38 w = some r → V X S w 38 [(1, rf S 1), (2, .int x3)] []) : ∀ (n : Nat) (w : Wd) (x4 : Int32) , L_X5_faultIn_12 F a1 x3 k38 n w x4 = some r → V X S w 12 [(0, rf S a1), (1, rf S 1), (2, .int x3), (3, .int x4)] [] := by
  intro n
  induction n with
  | zero =>
    intro w x4  hP
    exact nn hP
  | succ n ih =>
    intro w x4  hP
    rw [L_X5_faultIn_12] at hP
    refine V_iload_n hX dX5_faultIn_12 3 rfl ?_
    refine V_iload_n hX dX5_faultIn_13 2 rfl ?_
    refine V_icmp_ge (tgt := 38) hX dX5_faultIn_14 (by decide) (fun hc5 => ?_) (fun hc5 => ?_)
    · replace hP := ite_t hc5 hP
      refine V_sub (lv' := [(1, rf S 1), (2, .int x3)]) [1, 2] rfl ?_
      exact hk38 _   hP
    · replace hP := ite_f hc5 hP
      refine V_aload_n hX dX5_faultIn_17 0 rfl ?_
      refine V_iload_n hX dX5_faultIn_18 3 rfl ?_
      refine V_aload_n hX dX5_faultIn_19 1 rfl ?_
      refine V_iload_n hX dX5_faultIn_20 3 rfl ?_
      obtain ⟨x7, w6, hcw6, hP⟩ := bnd_e hP
      refine V_callVi (As := [.int x4]) (rest := [.int x4, rf S a1]) hX mk_X5_39 nk_X8_at (fun l => c_X8_at l S  hcw6) tb_1 rfl ⟨rfl, rfl, Nat.le_of_ble_eq_true rfl, Nat.le_of_ble_eq_true rfl⟩ rfl rfl (Nat.le_of_ble_eq_true rfl) dX5_faultIn_21 ?_
      obtain ⟨x9, w8, hcw8, hP⟩ := bnd_e hP
      refine V_callVi (As := [.int x4, .int x7]) (rest := []) hX mk_X5_42 nk_X5_fits (fun l => c_X5_fits l S ha1 hcw8) (tb_X5 ha1) rfl ⟨rfl, rfl, Nat.le_of_ble_eq_true rfl, Nat.le_of_ble_eq_true rfl⟩ rfl rfl (Nat.le_of_ble_eq_true rfl) dX5_faultIn_24 ?_
      refine V_if_ne (tgt := 32) hX dX5_faultIn_27 (by decide) (fun hc10 => ?_) (fun hc10 => ?_)
      · replace hP := ite_f hc10 hP
        obtain ⟨x11, ex11⟩ : ∃ y : Int32, y = x4 + 1 := ⟨_, rfl⟩
        replace hP := lt_r ex11 hP
        refine V_iinc (v := x11) (lv' := [(3, .int x11), (0, rf S a1), (1, rf S 1), (2, .int x3)]) hX dX5_faultIn_32 (j := 3) rfl (by decide) (by rw [ex11]; rfl) rfl ?_
        refine V_goto (tgt := 12) hX dX5_faultIn_35 (by decide) ?_
        refine V_sub (lv' := [(0, rf S a1), (1, rf S 1), (2, .int x3), (3, .int x11)]) [1, 2, 3, 0] rfl ?_
        exact ih _ _  hP
      · replace hP := ite_t hc10 hP
        refine V_iload_n hX dX5_faultIn_30 3 rfl ?_
        exact hR _ _ _ _ (Option.some.inj hP) rfl dX5_faultIn_31
def K_X5_faultIn_61 (F : Nat) (a1 : Nat)  (w : Wd)  : Option (Int32 × Wd) := some ((-1), w)
set_option maxRecDepth 100000 in
set_option maxHeartbeats 4000000 in
theorem sK_X5_faultIn_61 {X : Cx} {S : Sx} {r : Int32 × Wd} {F : Nat} {a1 : Nat}  {w : Wd}  (hX : Ok X S cX5_faultIn RX5 4 rm_X5_faultIn) (hR : HRt X S cX5_faultIn .int r) (ha1 : isX5 a1 = true)   (hP : K_X5_faultIn_61 F a1  w  = some r) : V X S w 61 [] [] := by
  unfold K_X5_faultIn_61 at hP
  refine V_iconst (v := (-1)) hX dX5_faultIn_61 (by decide) ?_
  refine V_goto (tgt := 66) hX dX5_faultIn_62 (by decide) ?_
  exact hR _ _ _ _ (Option.some.inj hP) rfl dX5_faultIn_66
def P_X5_faultIn (F : Nat) (w : Wd) (a1 : Nat) : Option (Int32 × Wd) := lt (minI (gI w 1 1) 23 : Int32) (fun x2 => L_X5_faultIn_12 F a1 x2 (fun w  => (if (gI w 1 1) ≤ 23 then (if x2 = 0 then K_X5_faultIn_61 F a1  w  else lt (if (iremI x2 3) = 2 then (-1) else x2 : Int32) (fun x16 => some (x16, w))) else some (23, w))) F w 0)
set_option maxRecDepth 100000 in
set_option maxHeartbeats 4000000 in
theorem s_X5_faultIn {X : Cx} {S : Sx} {r : Int32 × Wd} {F : Nat} {w : Wd} {a1 : Nat} (ha1 : isX5 a1 = true) (hX : Ok X S cX5_faultIn RX5 4 rm_X5_faultIn) (hR : HRt X S cX5_faultIn .int r) (hP : P_X5_faultIn F w a1 = some r) : V X S w 0 [(0, rf S a1), (1, rf S 1)] [] := by
  unfold P_X5_faultIn at hP
  refine V_aload_n hX dX5_faultIn_0 1 rfl ?_
  refine V_getI hX fk_X5_30 tb_1 (fun _ _ _ => rfl) dX5_faultIn_1 ?_
  refine V_bipush (v := 23) hX dX5_faultIn_4 (by decide) ?_
  refine V_min hX mk_X5_33 ⟨Nat.le_of_ble_eq_true rfl, Nat.le_of_ble_eq_true rfl⟩ dX5_faultIn_6 ?_
  refine V_topi (fun x2 ex2 => ?_)
  replace hP := lt_r ex2 hP
  refine V_istore_n (lv' := [(2, .int x2), (0, rf S a1), (1, rf S 1)]) hX dX5_faultIn_9 (by decide) rfl ?_
  refine V_iconst (v := 0) hX dX5_faultIn_10 (by decide) ?_
  refine V_istore_n (lv' := [(3, .int 0), (2, .int x2), (0, rf S a1), (1, rf S 1)]) hX dX5_faultIn_11 (by decide) rfl ?_
  refine V_sub (lv' := [(0, rf S a1), (1, rf S 1), (2, .int x2), (3, .int 0)]) [2, 3, 1, 0] rfl ?_
  have k18 : ∀ (w : Wd)  , ((if (gI w 1 1) ≤ 23 then (if x2 = 0 then K_X5_faultIn_61 F a1  w  else lt (if (iremI x2 3) = 2 then (-1) else x2 : Int32) (fun x16 => some (x16, w))) else some (23, w))) = some r → V X S w 38 [(1, rf S 1), (2, .int x2)] [] := by
    intro w   hP
    refine V_aload_n hX dX5_faultIn_38 0 rfl ?_
    refine V_getI hX fk_X5_30 tb_1 (fun _ _ _ => rfl) dX5_faultIn_39 ?_
    refine V_bipush (v := 23) hX dX5_faultIn_42 (by decide) ?_
    refine V_icmp_le (tgt := 50) hX dX5_faultIn_44 (by decide) (fun hc12 => ?_) (fun hc12 => ?_)
    · replace hP := ite_t hc12 hP
      refine V_iload_n hX dX5_faultIn_50 1 rfl ?_
      refine V_if_eq (tgt := 61) hX dX5_faultIn_51 (by decide) (fun hc13 => ?_) (fun hc13 => ?_)
      · replace hP := ite_t hc13 hP
        refine V_sub (lv' := []) [] rfl ?_
        exact sK_X5_faultIn_61 hX hR ha1   hP
      · replace hP := ite_f hc13 hP
        refine V_iload_n hX dX5_faultIn_54 1 rfl ?_
        refine V_iconst (v := 3) hX dX5_faultIn_55 (by decide) ?_
        refine V_irem hX dX5_faultIn_56 (by decide) ?_
        refine V_iconst (v := 2) hX dX5_faultIn_57 (by decide) ?_
        have k17 : V X S w 66 [(1, rf S 1), (2, .int x2)] [.int (if (iremI x2 3) = 2 then (-1) else x2)] := by
          refine V_topi (fun x16 ex16 => ?_)
          replace hP := lt_r ex16 hP
          exact hR _ _ _ _ (Option.some.inj hP) rfl dX5_faultIn_66
        refine V_icmp_ne (tgt := 65) hX dX5_faultIn_58 (by decide) (fun hc15 => ?_) (fun hc15 => ?_)
        · refine V_iload_n hX dX5_faultIn_65 1 rfl ?_
          refine V_selF (c := (iremI x2 3) = 2) (a := (-1)) hc15 ?_
          exact k17
        · refine V_iconst (v := (-1)) hX dX5_faultIn_61 (by decide) ?_
          refine V_goto (tgt := 66) hX dX5_faultIn_62 (by decide) ?_
          refine V_selT (c := (iremI x2 3) = 2) (b := x2) hc15 ?_
          exact k17
    · replace hP := ite_f hc12 hP
      refine V_bipush (v := 23) hX dX5_faultIn_47 (by decide) ?_
      exact hR _ _ _ _ (Option.some.inj hP) rfl dX5_faultIn_49
  exact sL_X5_faultIn_12 hX hR ha1 k18 F _ _  hP
theorem c_X5_faultIn (l : Launch) (S : Sx) {r : Int32 × Wd} {F : Nat} {w : Wd} {a1 : Nat} (ha1 : isX5 a1 = true) (h : P_X5_faultIn F w a1 = some r) : Met l yX5_faultIn (wsg yX5_faultIn cX5_faultIn 4 (some .int)) rm_X5_faultIn (PC S w [rf S a1, rf S 1]) (QCi S r) 0 0 (Aw S) :=
  met_i (by decide) rfl (Nat.le_of_ble_eq_true rfl) ⟨rfl, rfl⟩ (fun X hX hR => s_X5_faultIn ha1 hX hR h)

-- MustNotStop$Roll: yX5_admit
abbrev rm_X5_admit : Room := { frames := 4, cells := 0, slots := 0, locals := 131 }
theorem nk_X5_admit : MNk yX5_admit RX5 1 := ⟨rfl, by decide, by decide, by decide +kernel⟩
def L_X5_admit_4 (F : Nat) (a1 : Nat) (k79 : Wd → Int32 → Option (Int32 × Wd)) : Nat → Wd → Int32 → Int32 → Option (Int32 × Wd)
  | 0, _, _, _ => none
  | n + 1, w, x2, x3 => (if (gI w 1 1) ≤ x3 then k79 w x2 else (if (gI w a1 2) < 0 then k79 w x2 else (if (8 : Int32) ≤ (gI w a1 2) then k79 w x2 else bnd (P_X8_number F w x3 1) (fun x9 w8 => gd (inB (gI w a1 2) 8) (lt (sI w8 (a1 + 1) (gI w a1 2).toNatClampNeg x9) (fun w11 => bnd (P_X8_number F w11 (x3 + 1) 1) (fun x13 w12 => gd (inB (gI w11 a1 2) 8) (lt (sI w12 (a1 + 2) (gI w11 a1 2).toNatClampNeg x13) (fun w15 => lt (sI w15 a1 2 ((gI w15 a1 2) + 1)) (fun w16 => lt (x2 + 1 : Int32) (fun x17 => lt (x3 + 3 : Int32) (fun x18 => L_X5_admit_4 F a1 k79 n w16 x17 x18))))))))))))
set_option maxRecDepth 100000 in
set_option maxHeartbeats 4000000 in
theorem sL_X5_admit_4 {X : Cx} {S : Sx} {r : Int32 × Wd} {F : Nat} {a1 : Nat} {k79 : Wd → Int32 → Option (Int32 × Wd)} (hX : Ok X S cX5_admit RX5 4 rm_X5_admit) (hR : HRt X S cX5_admit .int r) (ha1 : isX5 a1 = true) (hk79 : ∀ (w : Wd) (x4 : Int32) , k79 w x4 = some r → V X S w 79 [(2, .int x4)] []) : ∀ (n : Nat) (w : Wd) (x2 : Int32) (x3 : Int32) , L_X5_admit_4 F a1 k79 n w x2 x3 = some r → V X S w 4 [(0, rf S a1), (1, rf S 1), (2, .int x2), (3, .int x3)] [] := by
  intro n
  induction n with
  | zero =>
    intro w x2 x3  hP
    exact nn hP
  | succ n ih =>
    intro w x2 x3  hP
    rw [L_X5_admit_4] at hP
    refine V_iload_n hX dX5_admit_4 3 rfl ?_
    refine V_aload_n hX dX5_admit_5 1 rfl ?_
    refine V_getI hX fk_X5_30 tb_1 (fun _ _ _ => rfl) dX5_admit_6 ?_
    refine V_icmp_ge (tgt := 79) hX dX5_admit_9 (by decide) (fun hc5 => ?_) (fun hc5 => ?_)
    · replace hP := ite_t hc5 hP
      refine V_sub (lv' := [(2, .int x2)]) [2] rfl ?_
      exact hk79 _ _  hP
    · replace hP := ite_f hc5 hP
      refine V_aload_n hX dX5_admit_12 0 rfl ?_
      refine V_getI hX fk_X5_18 (tb_X5 ha1) (fun _ _ _ => rfl) dX5_admit_13 ?_
      refine V_if_lt (tgt := 79) hX dX5_admit_16 (by decide) (fun hc6 => ?_) (fun hc6 => ?_)
      · replace hP := ite_t hc6 hP
        refine V_sub (lv' := [(2, .int x2)]) [2] rfl ?_
        exact hk79 _ _  hP
      · replace hP := ite_f hc6 hP
        refine V_aload_n hX dX5_admit_19 0 rfl ?_
        refine V_getI hX fk_X5_18 (tb_X5 ha1) (fun _ _ _ => rfl) dX5_admit_20 ?_
        refine V_bipush (v := 8) hX dX5_admit_23 (by decide) ?_
        refine V_icmp_ge (tgt := 79) hX dX5_admit_25 (by decide) (fun hc7 => ?_) (fun hc7 => ?_)
        · replace hP := ite_t hc7 hP
          refine V_sub (lv' := [(2, .int x2)]) [2] rfl ?_
          exact hk79 _ _  hP
        · replace hP := ite_f hc7 hP
          refine V_aload_n hX dX5_admit_28 0 rfl ?_
          refine V_getF (j := a1 + 1) hX fk_X5_9 (tb_X5 ha1) (fun _ _ _ => rfl) dX5_admit_29 ?_
          refine V_aload_n hX dX5_admit_32 0 rfl ?_
          refine V_getI hX fk_X5_18 (tb_X5 ha1) (fun _ _ _ => rfl) dX5_admit_33 ?_
          refine V_aload_n hX dX5_admit_36 1 rfl ?_
          refine V_iload_n hX dX5_admit_37 3 rfl ?_
          refine V_iconst (v := 1) hX dX5_admit_38 (by decide) ?_
          obtain ⟨x9, w8, hcw8, hP⟩ := bnd_e hP
          refine V_callVi (As := [.int x3, .int 1]) (rest := [.int (gI w a1 2), rf S (a1 + 1)]) hX mk_X5_46 nk_X8_number (fun l => c_X8_number l S  hcw8) tb_1 rfl ⟨rfl, rfl, Nat.le_of_ble_eq_true rfl, Nat.le_of_ble_eq_true rfl⟩ rfl rfl (Nat.le_of_ble_eq_true rfl) dX5_admit_39 ?_
          obtain ⟨hi10, hP⟩ := gd_e hP
          refine V_iast hX (tb_X5_1 ha1) hi10 dX5_admit_42 (fun w11 ew11 => ?_)
          replace hP := lt_r ew11 hP
          refine V_aload_n hX dX5_admit_43 0 rfl ?_
          refine V_getF (j := a1 + 2) hX fk_X5_15 (tb_X5 ha1) (fun _ _ _ => rfl) dX5_admit_44 ?_
          refine V_aload_n hX dX5_admit_47 0 rfl ?_
          refine V_getI hX fk_X5_18 (tb_X5 ha1) (fun _ _ _ => rfl) dX5_admit_48 ?_
          refine V_aload_n hX dX5_admit_51 1 rfl ?_
          refine V_iload_n hX dX5_admit_52 3 rfl ?_
          refine V_iconst (v := 1) hX dX5_admit_53 (by decide) ?_
          refine V_iadd hX dX5_admit_54 ?_
          refine V_iconst (v := 1) hX dX5_admit_55 (by decide) ?_
          obtain ⟨x13, w12, hcw12, hP⟩ := bnd_e hP
          refine V_callVi (As := [.int (x3 + 1), .int 1]) (rest := [.int (gI w11 a1 2), rf S (a1 + 2)]) hX mk_X5_46 nk_X8_number (fun l => c_X8_number l S  hcw12) tb_1 rfl ⟨rfl, rfl, Nat.le_of_ble_eq_true rfl, Nat.le_of_ble_eq_true rfl⟩ rfl rfl (Nat.le_of_ble_eq_true rfl) dX5_admit_56 ?_
          obtain ⟨hi14, hP⟩ := gd_e hP
          refine V_iast hX (tb_X5_2 ha1) hi14 dX5_admit_59 (fun w15 ew15 => ?_)
          replace hP := lt_r ew15 hP
          refine V_aload_n hX dX5_admit_60 0 rfl ?_
          refine V_dup hX dX5_admit_61 rfl ?_
          refine V_getI hX fk_X5_18 (tb_X5 ha1) (fun _ _ _ => rfl) dX5_admit_62 ?_
          refine V_iconst (v := 1) hX dX5_admit_65 (by decide) ?_
          refine V_iadd hX dX5_admit_66 ?_
          refine V_putI hX fw_X5_18 (tb_X5 ha1) (fun _ _ _ => ⟨Nat.le_of_ble_eq_true rfl, rfl⟩) dX5_admit_67 (fun w16 ew16 => ?_)
          replace hP := lt_r ew16 hP
          obtain ⟨x17, ex17⟩ : ∃ y : Int32, y = x2 + 1 := ⟨_, rfl⟩
          replace hP := lt_r ex17 hP
          refine V_iinc (v := x17) (lv' := [(2, .int x17), (0, rf S a1), (1, rf S 1), (3, .int x3)]) hX dX5_admit_70 (j := 2) rfl (by decide) (by rw [ex17]; rfl) rfl ?_
          obtain ⟨x18, ex18⟩ : ∃ y : Int32, y = x3 + 3 := ⟨_, rfl⟩
          replace hP := lt_r ex18 hP
          refine V_iinc (v := x18) (lv' := [(3, .int x18), (2, .int x17), (0, rf S a1), (1, rf S 1)]) hX dX5_admit_73 (j := 3) rfl (by decide) (by rw [ex18]; rfl) rfl ?_
          refine V_goto (tgt := 4) hX dX5_admit_76 (by decide) ?_
          refine V_sub (lv' := [(0, rf S a1), (1, rf S 1), (2, .int x17), (3, .int x18)]) [2, 3, 1, 0] rfl ?_
          exact ih _ _ _  hP
def P_X5_admit (F : Nat) (w : Wd) (a1 : Nat) : Option (Int32 × Wd) := L_X5_admit_4 F a1 (fun w x4 => some (x4, w)) F w 0 0
set_option maxRecDepth 100000 in
set_option maxHeartbeats 4000000 in
theorem s_X5_admit {X : Cx} {S : Sx} {r : Int32 × Wd} {F : Nat} {w : Wd} {a1 : Nat} (ha1 : isX5 a1 = true) (hX : Ok X S cX5_admit RX5 4 rm_X5_admit) (hR : HRt X S cX5_admit .int r) (hP : P_X5_admit F w a1 = some r) : V X S w 0 [(0, rf S a1), (1, rf S 1)] [] := by
  unfold P_X5_admit at hP
  refine V_iconst (v := 0) hX dX5_admit_0 (by decide) ?_
  refine V_istore_n (lv' := [(2, .int 0), (0, rf S a1), (1, rf S 1)]) hX dX5_admit_1 (by decide) rfl ?_
  refine V_iconst (v := 0) hX dX5_admit_2 (by decide) ?_
  refine V_istore_n (lv' := [(3, .int 0), (2, .int 0), (0, rf S a1), (1, rf S 1)]) hX dX5_admit_3 (by decide) rfl ?_
  refine V_sub (lv' := [(0, rf S a1), (1, rf S 1), (2, .int 0), (3, .int 0)]) [2, 3, 1, 0] rfl ?_
  have k19 : ∀ (w : Wd) (x4 : Int32) , (some (x4, w)) = some r → V X S w 79 [(2, .int x4)] [] := by
    intro w x4  hP
    refine V_iload_n hX dX5_admit_79 0 rfl ?_
    exact hR _ _ _ _ (Option.some.inj hP) rfl dX5_admit_80
  exact sL_X5_admit_4 hX hR ha1 k19 F _ _ _  hP
theorem c_X5_admit (l : Launch) (S : Sx) {r : Int32 × Wd} {F : Nat} {w : Wd} {a1 : Nat} (ha1 : isX5 a1 = true) (h : P_X5_admit F w a1 = some r) : Met l yX5_admit (wsg yX5_admit cX5_admit 4 (some .int)) rm_X5_admit (PC S w [rf S a1, rf S 1]) (QCi S r) 0 0 (Aw S) :=
  met_i (by decide) rfl (Nat.le_of_ble_eq_true rfl) ⟨rfl, rfl⟩ (fun X hX hR => s_X5_admit ha1 hX hR h)

-- MustNotStop$Roll.hearing(I)I
abbrev rm_X5_hearing : Room := { frames := 3, cells := 0, slots := 0, locals := 106 }
theorem nk_X5_hearing : MNk yX5_hearing RX5 1 := ⟨rfl, by decide, by decide, by decide +kernel⟩
def K_X5_hearing_33 (F : Nat) (a1 : Nat) (x2 : Int32) (k39 : Wd → Int32 → Option (Int32 × Wd)) (rc : Wd → Int32 → Int32 → Option (Int32 × Wd)) (w : Wd) (x10 : Int32) (x11 : Int32) : Option (Int32 × Wd) := lt (x11 + 1 : Int32) (fun x12 => rc w x10 x12)
set_option maxRecDepth 100000 in
set_option maxHeartbeats 4000000 in
theorem sK_X5_hearing_33 {X : Cx} {S : Sx} {r : Int32 × Wd} {F : Nat} {a1 : Nat} {x2 : Int32} {k39 : Wd → Int32 → Option (Int32 × Wd)} {rc : Wd → Int32 → Int32 → Option (Int32 × Wd)} {w : Wd} {x10 : Int32} {x11 : Int32} (hX : Ok X S cX5_hearing RX5 4 rm_X5_hearing) (hR : HRt X S cX5_hearing .int r) (ha1 : isX5 a1 = true) (hk39 : ∀ (w : Wd) (x5 : Int32) , k39 w x5 = some r → V X S w 39 [(2, .int x5)] []) (hrc : ∀ (w : Wd) (x3 : Int32) (x4 : Int32) , rc w x3 x4 = some r → V X S w 4 [(0, rf S a1), (1, .int x2), (2, .int x3), (3, .int x4)] [])  (hP : K_X5_hearing_33 F a1 x2 k39 rc w x10 x11 = some r) : V X S w 33 [(0, rf S a1), (1, .int x2), (2, .int x10), (3, .int x11)] [] := by
  unfold K_X5_hearing_33 at hP
  obtain ⟨x12, ex12⟩ : ∃ y : Int32, y = x11 + 1 := ⟨_, rfl⟩
  replace hP := lt_r ex12 hP
  refine V_iinc (v := x12) (lv' := [(3, .int x12), (0, rf S a1), (1, .int x2), (2, .int x10)]) hX dX5_hearing_33 (j := 3) rfl (by decide) (by rw [ex12]; rfl) rfl ?_
  refine V_goto (tgt := 4) hX dX5_hearing_36 (by decide) ?_
  refine V_sub (lv' := [(0, rf S a1), (1, .int x2), (2, .int x10), (3, .int x12)]) [1, 2, 3, 0] rfl ?_
  exact hrc _ _ _  hP
def L_X5_hearing_4 (F : Nat) (a1 : Nat) (x2 : Int32) (k39 : Wd → Int32 → Option (Int32 × Wd)) : Nat → Wd → Int32 → Int32 → Option (Int32 × Wd)
  | 0, _, _, _ => none
  | n + 1, w, x3, x4 => (if (8 : Int32) ≤ x4 then k39 w x3 else bnd (P_X5_has F w a1 x4) (fun x8 w7 => (if x8 = 0 then K_X5_hearing_33 F a1 x2 k39 ((L_X5_hearing_4 F a1 x2 k39 n)) w7 x3 x4 else bnd (P_X5_firstOf F w7 a1 x4) (fun x14 w13 => (if x2 < x14 then K_X5_hearing_33 F a1 x2 k39 ((L_X5_hearing_4 F a1 x2 k39 n)) w13 x3 x4 else lt (x3 ||| (ishlI 1 x4) : Int32) (fun x16 => K_X5_hearing_33 F a1 x2 k39 ((L_X5_hearing_4 F a1 x2 k39 n)) w13 x16 x4))))))
set_option maxRecDepth 100000 in
set_option maxHeartbeats 4000000 in
theorem sL_X5_hearing_4 {X : Cx} {S : Sx} {r : Int32 × Wd} {F : Nat} {a1 : Nat} {x2 : Int32} {k39 : Wd → Int32 → Option (Int32 × Wd)} (hX : Ok X S cX5_hearing RX5 4 rm_X5_hearing) (hR : HRt X S cX5_hearing .int r) (ha1 : isX5 a1 = true) (hk39 : ∀ (w : Wd) (x5 : Int32) , k39 w x5 = some r → V X S w 39 [(2, .int x5)] []) : ∀ (n : Nat) (w : Wd) (x3 : Int32) (x4 : Int32) , L_X5_hearing_4 F a1 x2 k39 n w x3 x4 = some r → V X S w 4 [(0, rf S a1), (1, .int x2), (2, .int x3), (3, .int x4)] [] := by
  intro n
  induction n with
  | zero =>
    intro w x3 x4  hP
    exact nn hP
  | succ n ih =>
    intro w x3 x4  hP
    rw [L_X5_hearing_4] at hP
    refine V_iload_n hX dX5_hearing_4 3 rfl ?_
    refine V_bipush (v := 8) hX dX5_hearing_5 (by decide) ?_
    refine V_icmp_ge (tgt := 39) hX dX5_hearing_7 (by decide) (fun hc6 => ?_) (fun hc6 => ?_)
    · replace hP := ite_t hc6 hP
      refine V_sub (lv' := [(2, .int x3)]) [2] rfl ?_
      exact hk39 _ _  hP
    · replace hP := ite_f hc6 hP
      refine V_aload_n hX dX5_hearing_10 0 rfl ?_
      refine V_iload_n hX dX5_hearing_11 3 rfl ?_
      obtain ⟨x8, w7, hcw7, hP⟩ := bnd_e hP
      refine V_callVi (As := [.int x4]) (rest := []) hX mk_X5_22 nk_X5_has (fun l => c_X5_has l S ha1 hcw7) (tb_X5 ha1) rfl ⟨rfl, rfl, Nat.le_of_ble_eq_true rfl, Nat.le_of_ble_eq_true rfl⟩ rfl rfl (Nat.le_of_ble_eq_true rfl) dX5_hearing_12 ?_
      refine V_if_eq (tgt := 33) hX dX5_hearing_15 (by decide) (fun hc9 => ?_) (fun hc9 => ?_)
      · replace hP := ite_t hc9 hP
        exact sK_X5_hearing_33 hX hR ha1 hk39 ih  hP
      · replace hP := ite_f hc9 hP
        refine V_aload_n hX dX5_hearing_18 0 rfl ?_
        refine V_iload_n hX dX5_hearing_19 3 rfl ?_
        obtain ⟨x14, w13, hcw13, hP⟩ := bnd_e hP
        refine V_callVi (As := [.int x4]) (rest := []) hX mk_X5_49 nk_X5_firstOf (fun l => c_X5_firstOf l S ha1 hcw13) (tb_X5 ha1) rfl ⟨rfl, rfl, Nat.le_of_ble_eq_true rfl, Nat.le_of_ble_eq_true rfl⟩ rfl rfl (Nat.le_of_ble_eq_true rfl) dX5_hearing_20 ?_
        refine V_iload_n hX dX5_hearing_23 1 rfl ?_
        refine V_icmp_gt (tgt := 33) hX dX5_hearing_24 (by decide) (fun hc15 => ?_) (fun hc15 => ?_)
        · replace hP := ite_t hc15 hP
          exact sK_X5_hearing_33 hX hR ha1 hk39 ih  hP
        · replace hP := ite_f hc15 hP
          refine V_iload_n hX dX5_hearing_27 2 rfl ?_
          refine V_iconst (v := 1) hX dX5_hearing_28 (by decide) ?_
          refine V_iload_n hX dX5_hearing_29 3 rfl ?_
          refine V_ishl hX dX5_hearing_30 ?_
          refine V_ior hX dX5_hearing_31 ?_
          refine V_topi (fun x16 ex16 => ?_)
          replace hP := lt_r ex16 hP
          refine V_istore_n (lv' := [(2, .int x16), (0, rf S a1), (1, .int x2), (3, .int x4)]) hX dX5_hearing_32 (by decide) rfl ?_
          refine V_sub (lv' := [(0, rf S a1), (1, .int x2), (2, .int x16), (3, .int x4)]) [1, 2, 0, 3] rfl ?_
          exact sK_X5_hearing_33 hX hR ha1 hk39 ih  hP
def P_X5_hearing (F : Nat) (w : Wd) (a1 : Nat) (x2 : Int32) : Option (Int32 × Wd) := L_X5_hearing_4 F a1 x2 (fun w x5 => some (x5, w)) F w 0 0
set_option maxRecDepth 100000 in
set_option maxHeartbeats 4000000 in
theorem s_X5_hearing {X : Cx} {S : Sx} {r : Int32 × Wd} {F : Nat} {w : Wd} {a1 : Nat} {x2 : Int32} (ha1 : isX5 a1 = true) (hX : Ok X S cX5_hearing RX5 4 rm_X5_hearing) (hR : HRt X S cX5_hearing .int r) (hP : P_X5_hearing F w a1 x2 = some r) : V X S w 0 [(0, rf S a1), (1, .int x2)] [] := by
  unfold P_X5_hearing at hP
  refine V_iconst (v := 0) hX dX5_hearing_0 (by decide) ?_
  refine V_istore_n (lv' := [(2, .int 0), (0, rf S a1), (1, .int x2)]) hX dX5_hearing_1 (by decide) rfl ?_
  refine V_iconst (v := 0) hX dX5_hearing_2 (by decide) ?_
  refine V_istore_n (lv' := [(3, .int 0), (2, .int 0), (0, rf S a1), (1, .int x2)]) hX dX5_hearing_3 (by decide) rfl ?_
  refine V_sub (lv' := [(0, rf S a1), (1, .int x2), (2, .int 0), (3, .int 0)]) [2, 3, 1, 0] rfl ?_
  have k17 : ∀ (w : Wd) (x5 : Int32) , (some (x5, w)) = some r → V X S w 39 [(2, .int x5)] [] := by
    intro w x5  hP
    refine V_iload_n hX dX5_hearing_39 0 rfl ?_
    exact hR _ _ _ _ (Option.some.inj hP) rfl dX5_hearing_40
  exact sL_X5_hearing_4 hX hR ha1 k17 F _ _ _  hP
theorem c_X5_hearing (l : Launch) (S : Sx) {r : Int32 × Wd} {F : Nat} {w : Wd} {a1 : Nat} {x2 : Int32} (ha1 : isX5 a1 = true) (h : P_X5_hearing F w a1 x2 = some r) : Met l yX5_hearing (wsg yX5_hearing cX5_hearing 4 (some .int)) rm_X5_hearing (PC S w [rf S a1, .int x2]) (QCi S r) 0 0 (Aw S) :=
  met_i (by decide) rfl (Nat.le_of_ble_eq_true rfl) ⟨rfl, rfl⟩ (fun X hX hR => s_X5_hearing ha1 hX hR h)

-- MustNotStop$Roll.moved(I)I
abbrev rm_X5_moved : Room := { frames := 3, cells := 0, slots := 0, locals := 106 }
theorem nk_X5_moved : MNk yX5_moved RX5 1 := ⟨rfl, by decide, by decide, by decide +kernel⟩
def K_X5_moved_43 (F : Nat) (a1 : Nat) (x2 : Int32) (k49 : Wd → Int32 → Option (Int32 × Wd)) (rc : Wd → Int32 → Int32 → Option (Int32 × Wd)) (w : Wd) (x10 : Int32) (x11 : Int32) : Option (Int32 × Wd) := lt (x11 + 1 : Int32) (fun x12 => rc w x10 x12)
set_option maxRecDepth 100000 in
set_option maxHeartbeats 4000000 in
theorem sK_X5_moved_43 {X : Cx} {S : Sx} {r : Int32 × Wd} {F : Nat} {a1 : Nat} {x2 : Int32} {k49 : Wd → Int32 → Option (Int32 × Wd)} {rc : Wd → Int32 → Int32 → Option (Int32 × Wd)} {w : Wd} {x10 : Int32} {x11 : Int32} (hX : Ok X S cX5_moved RX5 5 rm_X5_moved) (hR : HRt X S cX5_moved .int r) (ha1 : isX5 a1 = true) (hk49 : ∀ (w : Wd) (x5 : Int32) , k49 w x5 = some r → V X S w 49 [(2, .int x5)] []) (hrc : ∀ (w : Wd) (x3 : Int32) (x4 : Int32) , rc w x3 x4 = some r → V X S w 4 [(0, rf S a1), (1, .int x2), (2, .int x3), (3, .int x4)] [])  (hP : K_X5_moved_43 F a1 x2 k49 rc w x10 x11 = some r) : V X S w 43 [(0, rf S a1), (1, .int x2), (2, .int x10), (3, .int x11)] [] := by
  unfold K_X5_moved_43 at hP
  obtain ⟨x12, ex12⟩ : ∃ y : Int32, y = x11 + 1 := ⟨_, rfl⟩
  replace hP := lt_r ex12 hP
  refine V_iinc (v := x12) (lv' := [(3, .int x12), (0, rf S a1), (1, .int x2), (2, .int x10)]) hX dX5_moved_43 (j := 3) rfl (by decide) (by rw [ex12]; rfl) rfl ?_
  refine V_goto (tgt := 4) hX dX5_moved_46 (by decide) ?_
  refine V_sub (lv' := [(0, rf S a1), (1, .int x2), (2, .int x10), (3, .int x12)]) [1, 2, 3, 0] rfl ?_
  exact hrc _ _ _  hP
def L_X5_moved_4 (F : Nat) (a1 : Nat) (x2 : Int32) (k49 : Wd → Int32 → Option (Int32 × Wd)) : Nat → Wd → Int32 → Int32 → Option (Int32 × Wd)
  | 0, _, _, _ => none
  | n + 1, w, x3, x4 => (if (8 : Int32) ≤ x4 then k49 w x3 else bnd (P_X5_secondOf F w a1 x4) (fun x8 w7 => (if x8 = 0 then K_X5_moved_43 F a1 x2 k49 ((L_X5_moved_4 F a1 x2 k49 n)) w7 x3 x4 else bnd (P_J6_bitCount_0f7a4 F w7 (x2 &&& ((ishlI 1 x4) ^^^ ((-1))))) (fun x14 w13 => (if x14 < x8 then K_X5_moved_43 F a1 x2 k49 ((L_X5_moved_4 F a1 x2 k49 n)) w13 x3 x4 else lt (x3 ||| (ishlI 1 x4) : Int32) (fun x16 => K_X5_moved_43 F a1 x2 k49 ((L_X5_moved_4 F a1 x2 k49 n)) w13 x16 x4))))))
set_option maxRecDepth 100000 in
set_option maxHeartbeats 4000000 in
theorem sL_X5_moved_4 {X : Cx} {S : Sx} {r : Int32 × Wd} {F : Nat} {a1 : Nat} {x2 : Int32} {k49 : Wd → Int32 → Option (Int32 × Wd)} (hX : Ok X S cX5_moved RX5 5 rm_X5_moved) (hR : HRt X S cX5_moved .int r) (ha1 : isX5 a1 = true) (hk49 : ∀ (w : Wd) (x5 : Int32) , k49 w x5 = some r → V X S w 49 [(2, .int x5)] []) : ∀ (n : Nat) (w : Wd) (x3 : Int32) (x4 : Int32) , L_X5_moved_4 F a1 x2 k49 n w x3 x4 = some r → V X S w 4 [(0, rf S a1), (1, .int x2), (2, .int x3), (3, .int x4)] [] := by
  intro n
  induction n with
  | zero =>
    intro w x3 x4  hP
    exact nn hP
  | succ n ih =>
    intro w x3 x4  hP
    rw [L_X5_moved_4] at hP
    refine V_iload_n hX dX5_moved_4 3 rfl ?_
    refine V_bipush (v := 8) hX dX5_moved_5 (by decide) ?_
    refine V_icmp_ge (tgt := 49) hX dX5_moved_7 (by decide) (fun hc6 => ?_) (fun hc6 => ?_)
    · replace hP := ite_t hc6 hP
      refine V_sub (lv' := [(2, .int x3)]) [2] rfl ?_
      exact hk49 _ _  hP
    · replace hP := ite_f hc6 hP
      refine V_aload_n hX dX5_moved_10 0 rfl ?_
      refine V_iload_n hX dX5_moved_11 3 rfl ?_
      obtain ⟨x8, w7, hcw7, hP⟩ := bnd_e hP
      refine V_callVi (As := [.int x4]) (rest := []) hX mk_X5_26 nk_X5_secondOf (fun l => c_X5_secondOf l S ha1 hcw7) (tb_X5 ha1) rfl ⟨rfl, rfl, Nat.le_of_ble_eq_true rfl, Nat.le_of_ble_eq_true rfl⟩ rfl rfl (Nat.le_of_ble_eq_true rfl) dX5_moved_12 ?_
      refine V_istore (lv' := [(4, .int x8), (0, rf S a1), (1, .int x2), (2, .int x3), (3, .int x4)]) hX dX5_moved_15 (by decide) rfl ?_
      refine V_iload hX dX5_moved_17 0 rfl ?_
      refine V_if_eq (tgt := 43) hX dX5_moved_19 (by decide) (fun hc9 => ?_) (fun hc9 => ?_)
      · replace hP := ite_t hc9 hP
        refine V_sub (lv' := [(0, rf S a1), (1, .int x2), (2, .int x3), (3, .int x4)]) [1, 2, 3, 4] rfl ?_
        exact sK_X5_moved_43 hX hR ha1 hk49 ih  hP
      · replace hP := ite_f hc9 hP
        refine V_iload_n hX dX5_moved_22 2 rfl ?_
        refine V_iconst (v := 1) hX dX5_moved_23 (by decide) ?_
        refine V_iload_n hX dX5_moved_24 4 rfl ?_
        refine V_ishl hX dX5_moved_25 ?_
        refine V_iconst (v := (-1)) hX dX5_moved_26 (by decide) ?_
        refine V_ixor hX dX5_moved_27 ?_
        refine V_iand hX dX5_moved_28 ?_
        obtain ⟨x14, w13, hcw13, hP⟩ := bnd_e hP
        refine V_callSi (As := [.int (x2 &&& ((ishlI 1 x4) ^^^ ((-1))))]) (rest := []) hX mk_X5_55 nk_J6_bitCount_0f7a4 (fun l => c_J6_bitCount_0f7a4 l S  hcw13) ⟨rfl, rfl, Nat.le_of_ble_eq_true rfl, Nat.le_of_ble_eq_true rfl⟩ rfl rfl (Nat.le_of_ble_eq_true rfl) dX5_moved_29 ?_
        refine V_iload hX dX5_moved_32 0 rfl ?_
        refine V_icmp_lt (tgt := 43) hX dX5_moved_34 (by decide) (fun hc15 => ?_) (fun hc15 => ?_)
        · replace hP := ite_t hc15 hP
          refine V_sub (lv' := [(0, rf S a1), (1, .int x2), (2, .int x3), (3, .int x4)]) [1, 2, 3, 4] rfl ?_
          exact sK_X5_moved_43 hX hR ha1 hk49 ih  hP
        · replace hP := ite_f hc15 hP
          refine V_iload_n hX dX5_moved_37 3 rfl ?_
          refine V_iconst (v := 1) hX dX5_moved_38 (by decide) ?_
          refine V_iload_n hX dX5_moved_39 4 rfl ?_
          refine V_ishl hX dX5_moved_40 ?_
          refine V_ior hX dX5_moved_41 ?_
          refine V_topi (fun x16 ex16 => ?_)
          replace hP := lt_r ex16 hP
          refine V_istore_n (lv' := [(2, .int x16), (4, .int x8), (0, rf S a1), (1, .int x2), (3, .int x4)]) hX dX5_moved_42 (by decide) rfl ?_
          refine V_sub (lv' := [(0, rf S a1), (1, .int x2), (2, .int x16), (3, .int x4)]) [2, 3, 0, 4] rfl ?_
          exact sK_X5_moved_43 hX hR ha1 hk49 ih  hP
def P_X5_moved (F : Nat) (w : Wd) (a1 : Nat) (x2 : Int32) : Option (Int32 × Wd) := L_X5_moved_4 F a1 x2 (fun w x5 => some (x5, w)) F w 0 0
set_option maxRecDepth 100000 in
set_option maxHeartbeats 4000000 in
theorem s_X5_moved {X : Cx} {S : Sx} {r : Int32 × Wd} {F : Nat} {w : Wd} {a1 : Nat} {x2 : Int32} (ha1 : isX5 a1 = true) (hX : Ok X S cX5_moved RX5 5 rm_X5_moved) (hR : HRt X S cX5_moved .int r) (hP : P_X5_moved F w a1 x2 = some r) : V X S w 0 [(0, rf S a1), (1, .int x2)] [] := by
  unfold P_X5_moved at hP
  refine V_iconst (v := 0) hX dX5_moved_0 (by decide) ?_
  refine V_istore_n (lv' := [(2, .int 0), (0, rf S a1), (1, .int x2)]) hX dX5_moved_1 (by decide) rfl ?_
  refine V_iconst (v := 0) hX dX5_moved_2 (by decide) ?_
  refine V_istore_n (lv' := [(3, .int 0), (2, .int 0), (0, rf S a1), (1, .int x2)]) hX dX5_moved_3 (by decide) rfl ?_
  refine V_sub (lv' := [(0, rf S a1), (1, .int x2), (2, .int 0), (3, .int 0)]) [2, 3, 1, 0] rfl ?_
  have k17 : ∀ (w : Wd) (x5 : Int32) , (some (x5, w)) = some r → V X S w 49 [(2, .int x5)] [] := by
    intro w x5  hP
    refine V_iload_n hX dX5_moved_49 0 rfl ?_
    exact hR _ _ _ _ (Option.some.inj hP) rfl dX5_moved_50
  exact sL_X5_moved_4 hX hR ha1 k17 F _ _ _  hP
theorem c_X5_moved (l : Launch) (S : Sx) {r : Int32 × Wd} {F : Nat} {w : Wd} {a1 : Nat} {x2 : Int32} (ha1 : isX5 a1 = true) (h : P_X5_moved F w a1 x2 = some r) : Met l yX5_moved (wsg yX5_moved cX5_moved 5 (some .int)) rm_X5_moved (PC S w [rf S a1, .int x2]) (QCi S r) 0 0 (Aw S) :=
  met_i (by decide) rfl (Nat.le_of_ble_eq_true rfl) ⟨rfl, rfl⟩ (fun X hX hR => s_X5_moved ha1 hX hR h)

-- MustNotStop$Roll.persuadedBy(I)I
abbrev rm_X5_persuadedBy : Room := { frames := 4, cells := 0, slots := 0, locals := 130 }
theorem nk_X5_persuadedBy : MNk yX5_persuadedBy RX5 1 := ⟨rfl, by decide, by decide, by decide +kernel⟩
def L_X5_persuadedBy_4 (F : Nat) (a1 : Nat) (x2 : Int32) (k24 : Wd → Int32 → Option (Int32 × Wd)) : Nat → Wd → Int32 → Int32 → Option (Int32 × Wd)
  | 0, _, _, _ => none
  | n + 1, w, x3, x4 => (if (8 : Int32) ≤ x4 then k24 w x3 else bnd (P_X5_moved F w a1 x3) (fun x8 w7 => lt (x3 ||| x8 : Int32) (fun x9 => lt (x4 + 1 : Int32) (fun x10 => L_X5_persuadedBy_4 F a1 x2 k24 n w7 x9 x10))))
set_option maxRecDepth 100000 in
set_option maxHeartbeats 4000000 in
theorem sL_X5_persuadedBy_4 {X : Cx} {S : Sx} {r : Int32 × Wd} {F : Nat} {a1 : Nat} {x2 : Int32} {k24 : Wd → Int32 → Option (Int32 × Wd)} (hX : Ok X S cX5_persuadedBy RX5 4 rm_X5_persuadedBy) (hR : HRt X S cX5_persuadedBy .int r) (ha1 : isX5 a1 = true) (hk24 : ∀ (w : Wd) (x5 : Int32) , k24 w x5 = some r → V X S w 24 [(2, .int x5)] []) : ∀ (n : Nat) (w : Wd) (x3 : Int32) (x4 : Int32) , L_X5_persuadedBy_4 F a1 x2 k24 n w x3 x4 = some r → V X S w 4 [(0, rf S a1), (2, .int x3), (3, .int x4), (1, .int x2)] [] := by
  intro n
  induction n with
  | zero =>
    intro w x3 x4  hP
    exact nn hP
  | succ n ih =>
    intro w x3 x4  hP
    rw [L_X5_persuadedBy_4] at hP
    refine V_iload_n hX dX5_persuadedBy_4 2 rfl ?_
    refine V_bipush (v := 8) hX dX5_persuadedBy_5 (by decide) ?_
    refine V_icmp_ge (tgt := 24) hX dX5_persuadedBy_7 (by decide) (fun hc6 => ?_) (fun hc6 => ?_)
    · replace hP := ite_t hc6 hP
      refine V_sub (lv' := [(2, .int x3)]) [1] rfl ?_
      exact hk24 _ _  hP
    · replace hP := ite_f hc6 hP
      refine V_iload_n hX dX5_persuadedBy_10 1 rfl ?_
      refine V_aload_n hX dX5_persuadedBy_11 0 rfl ?_
      refine V_iload_n hX dX5_persuadedBy_12 1 rfl ?_
      obtain ⟨x8, w7, hcw7, hP⟩ := bnd_e hP
      refine V_callVi (As := [.int x3]) (rest := [.int x3]) hX mk_X5_52 nk_X5_moved (fun l => c_X5_moved l S ha1 hcw7) (tb_X5 ha1) rfl ⟨rfl, rfl, Nat.le_of_ble_eq_true rfl, Nat.le_of_ble_eq_true rfl⟩ rfl rfl (Nat.le_of_ble_eq_true rfl) dX5_persuadedBy_13 ?_
      refine V_ior hX dX5_persuadedBy_16 ?_
      refine V_topi (fun x9 ex9 => ?_)
      replace hP := lt_r ex9 hP
      refine V_istore_n (lv' := [(2, .int x9), (0, rf S a1), (3, .int x4), (1, .int x2)]) hX dX5_persuadedBy_17 (by decide) rfl ?_
      obtain ⟨x10, ex10⟩ : ∃ y : Int32, y = x4 + 1 := ⟨_, rfl⟩
      replace hP := lt_r ex10 hP
      refine V_iinc (v := x10) (lv' := [(3, .int x10), (2, .int x9), (0, rf S a1), (1, .int x2)]) hX dX5_persuadedBy_18 (j := 2) rfl (by decide) (by rw [ex10]; rfl) rfl ?_
      refine V_goto (tgt := 4) hX dX5_persuadedBy_21 (by decide) ?_
      refine V_sub (lv' := [(0, rf S a1), (2, .int x9), (3, .int x10), (1, .int x2)]) [2, 1, 0, 3] rfl ?_
      exact ih _ _ _  hP
def P_X5_persuadedBy (F : Nat) (w : Wd) (a1 : Nat) (x2 : Int32) : Option (Int32 × Wd) := L_X5_persuadedBy_4 F a1 x2 (fun w x5 => some (x5, w)) F w x2 0
set_option maxRecDepth 100000 in
set_option maxHeartbeats 4000000 in
theorem s_X5_persuadedBy {X : Cx} {S : Sx} {r : Int32 × Wd} {F : Nat} {w : Wd} {a1 : Nat} {x2 : Int32} (ha1 : isX5 a1 = true) (hX : Ok X S cX5_persuadedBy RX5 4 rm_X5_persuadedBy) (hR : HRt X S cX5_persuadedBy .int r) (hP : P_X5_persuadedBy F w a1 x2 = some r) : V X S w 0 [(0, rf S a1), (1, .int x2)] [] := by
  unfold P_X5_persuadedBy at hP
  refine V_iload_n hX dX5_persuadedBy_0 1 rfl ?_
  refine V_istore_n (lv' := [(2, .int x2), (0, rf S a1), (1, .int x2)]) hX dX5_persuadedBy_1 (by decide) rfl ?_
  refine V_iconst (v := 0) hX dX5_persuadedBy_2 (by decide) ?_
  refine V_istore_n (lv' := [(3, .int 0), (2, .int x2), (0, rf S a1), (1, .int x2)]) hX dX5_persuadedBy_3 (by decide) rfl ?_
  refine V_sub (lv' := [(0, rf S a1), (2, .int x2), (3, .int 0), (1, .int x2)]) [2, 1, 0, 3] rfl ?_
  have k11 : ∀ (w : Wd) (x5 : Int32) , (some (x5, w)) = some r → V X S w 24 [(2, .int x5)] [] := by
    intro w x5  hP
    refine V_iload_n hX dX5_persuadedBy_24 0 rfl ?_
    exact hR _ _ _ _ (Option.some.inj hP) rfl dX5_persuadedBy_25
  exact sL_X5_persuadedBy_4 hX hR ha1 k11 F _ _ _  hP
theorem c_X5_persuadedBy (l : Launch) (S : Sx) {r : Int32 × Wd} {F : Nat} {w : Wd} {a1 : Nat} {x2 : Int32} (ha1 : isX5 a1 = true) (h : P_X5_persuadedBy F w a1 x2 = some r) : Met l yX5_persuadedBy (wsg yX5_persuadedBy cX5_persuadedBy 4 (some .int)) rm_X5_persuadedBy (PC S w [rf S a1, .int x2]) (QCi S r) 0 0 (Aw S) :=
  met_i (by decide) rfl (Nat.le_of_ble_eq_true rfl) ⟨rfl, rfl⟩ (fun X hX hR => s_X5_persuadedBy ha1 hX hR h)

-- MustNotStop$Rotas.bestIn(I)I
abbrev rm_X6_bestIn : Room := { frames := 1, cells := 0, slots := 0, locals := 64 }
theorem nk_X6_bestIn : MNk yX6_bestIn RX6 1 := ⟨rfl, by decide, by decide, by decide +kernel⟩
def P_X6_bestIn (F : Nat) (w : Wd) (x1 : Int32) : Option (Int32 × Wd) := (if x1 < 0 then some ((-1), w) else (if (4 : Int32) ≤ x1 then some ((-1), w) else gd (inB x1 4) (some (gI w 65 x1.toNatClampNeg, w))))
set_option maxRecDepth 100000 in
set_option maxHeartbeats 4000000 in
theorem s_X6_bestIn {X : Cx} {S : Sx} {r : Int32 × Wd} {F : Nat} {w : Wd} {x1 : Int32}  (hX : Ok X S cX6_bestIn RX6 2 rm_X6_bestIn) (hR : HRt X S cX6_bestIn .int r) (hP : P_X6_bestIn F w x1 = some r) : V X S w 0 [(0, rf S 62), (1, .int x1)] [] := by
  unfold P_X6_bestIn at hP
  refine V_iload_n hX dX6_bestIn_0 1 rfl ?_
  refine V_if_lt (tgt := 18) hX dX6_bestIn_1 (by decide) (fun hc2 => ?_) (fun hc2 => ?_)
  · replace hP := ite_t hc2 hP
    refine V_iconst (v := (-1)) hX dX6_bestIn_18 (by decide) ?_
    exact hR _ _ _ _ (Option.some.inj hP) rfl dX6_bestIn_19
  · replace hP := ite_f hc2 hP
    refine V_iload_n hX dX6_bestIn_4 1 rfl ?_
    refine V_iconst (v := 4) hX dX6_bestIn_5 (by decide) ?_
    refine V_icmp_ge (tgt := 18) hX dX6_bestIn_6 (by decide) (fun hc3 => ?_) (fun hc3 => ?_)
    · replace hP := ite_t hc3 hP
      refine V_iconst (v := (-1)) hX dX6_bestIn_18 (by decide) ?_
      exact hR _ _ _ _ (Option.some.inj hP) rfl dX6_bestIn_19
    · replace hP := ite_f hc3 hP
      refine V_aload_n hX dX6_bestIn_9 0 rfl ?_
      refine V_getF (j := 65) hX fk_X6_21 tb_62 (fun _ _ _ => rfl) dX6_bestIn_10 ?_
      refine V_iload_n hX dX6_bestIn_13 1 rfl ?_
      obtain ⟨hi4, hP⟩ := gd_e hP
      refine V_iald hX tb_65 hi4 dX6_bestIn_14 ?_
      refine V_goto (tgt := 19) hX dX6_bestIn_15 (by decide) ?_
      exact hR _ _ _ _ (Option.some.inj hP) rfl dX6_bestIn_19
theorem c_X6_bestIn (l : Launch) (S : Sx) {r : Int32 × Wd} {F : Nat} {w : Wd} {x1 : Int32}  (h : P_X6_bestIn F w x1 = some r) : Met l yX6_bestIn (wsg yX6_bestIn cX6_bestIn 2 (some .int)) rm_X6_bestIn (PC S w [rf S 62, .int x1]) (QCi S r) 0 0 (Aw S) :=
  met_i (by decide) rfl (Nat.le_of_ble_eq_true rfl) ⟨rfl, rfl⟩ (fun X hX hR => s_X6_bestIn  hX hR h)

-- MustNotStop$Rotas.worth(LMustNotStop$Tower;III)I
abbrev rm_X6_worth : Room := { frames := 3, cells := 0, slots := 0, locals := 106 }
theorem nk_X6_worth : MNk yX6_worth RX6 4 := ⟨rfl, by decide, by decide, by decide +kernel⟩
def L_X6_worth_9 (F : Nat) (a1 : Nat) (x2 : Int32) (x3 : Int32) (x4 : Int32) (k62 : Wd → Int32 → Int32 → Option (Int32 × Wd)) : Nat → Wd → Int32 → Int32 → Int32 → Option (Int32 × Wd)
  | 0, _, _, _, _ => none
  | n + 1, w, x5, x6, x7 => (if x2 < x7 then k62 w x5 x6 else (if (4 : Int32) ≤ x7 then k62 w x5 x6 else gd (inB x7 4) (lt (x5 ||| (ishlI 1 (gI w 64 x7.toNatClampNeg)) : Int32) (fun x13 => gd (inB x7 4) (bnd (P_X5_secondOf F w 6 (gI w 64 x7.toNatClampNeg)) (fun x16 w15 => lt (x6 + (x16 * x3) : Int32) (fun x17 => lt (x7 + 1 : Int32) (fun x18 => L_X6_worth_9 F a1 x2 x3 x4 k62 n w15 x13 x17 x18))))))))
set_option maxRecDepth 100000 in
set_option maxHeartbeats 4000000 in
theorem sL_X6_worth_9 {X : Cx} {S : Sx} {r : Int32 × Wd} {F : Nat} {a1 : Nat} {x2 : Int32} {x3 : Int32} {x4 : Int32} {k62 : Wd → Int32 → Int32 → Option (Int32 × Wd)} (hX : Ok X S cX6_worth RX6 8 rm_X6_worth) (hR : HRt X S cX6_worth .int r) (ha1 : isX9 a1 = true) (hk62 : ∀ (w : Wd) (x8 : Int32) (x9 : Int32) , k62 w x8 x9 = some r → V X S w 62 [(4, .int x4), (5, .int x8), (6, .int x9)] []) : ∀ (n : Nat) (w : Wd) (x5 : Int32) (x6 : Int32) (x7 : Int32) , L_X6_worth_9 F a1 x2 x3 x4 k62 n w x5 x6 x7 = some r → V X S w 9 [(0, rf S 62), (1, rf S a1), (2, .int x2), (3, .int x3), (4, .int x4), (5, .int x5), (6, .int x6), (7, .int x7)] [] := by
  intro n
  induction n with
  | zero =>
    intro w x5 x6 x7  hP
    exact nn hP
  | succ n ih =>
    intro w x5 x6 x7  hP
    rw [L_X6_worth_9] at hP
    refine V_iload hX dX6_worth_9 7 rfl ?_
    refine V_iload_n hX dX6_worth_11 2 rfl ?_
    refine V_icmp_gt (tgt := 62) hX dX6_worth_12 (by decide) (fun hc10 => ?_) (fun hc10 => ?_)
    · replace hP := ite_t hc10 hP
      refine V_sub (lv' := [(4, .int x4), (5, .int x5), (6, .int x6)]) [4, 5, 6] rfl ?_
      exact hk62 _ _ _  hP
    · replace hP := ite_f hc10 hP
      refine V_iload hX dX6_worth_15 7 rfl ?_
      refine V_iconst (v := 4) hX dX6_worth_17 (by decide) ?_
      refine V_icmp_ge (tgt := 62) hX dX6_worth_18 (by decide) (fun hc11 => ?_) (fun hc11 => ?_)
      · replace hP := ite_t hc11 hP
        refine V_sub (lv' := [(4, .int x4), (5, .int x5), (6, .int x6)]) [4, 5, 6] rfl ?_
        exact hk62 _ _ _  hP
      · replace hP := ite_f hc11 hP
        refine V_iload hX dX6_worth_21 5 rfl ?_
        refine V_iconst (v := 1) hX dX6_worth_23 (by decide) ?_
        refine V_aload_n hX dX6_worth_24 0 rfl ?_
        refine V_getF (j := 64) hX fk_X6_17 tb_62 (fun _ _ _ => rfl) dX6_worth_25 ?_
        refine V_iload hX dX6_worth_28 7 rfl ?_
        obtain ⟨hi12, hP⟩ := gd_e hP
        refine V_iald hX tb_64 hi12 dX6_worth_30 ?_
        refine V_ishl hX dX6_worth_31 ?_
        refine V_ior hX dX6_worth_32 ?_
        refine V_topi (fun x13 ex13 => ?_)
        replace hP := lt_r ex13 hP
        refine V_istore (lv' := [(5, .int x13), (0, rf S 62), (1, rf S a1), (2, .int x2), (3, .int x3), (4, .int x4), (6, .int x6), (7, .int x7)]) hX dX6_worth_33 (by decide) rfl ?_
        refine V_iload hX dX6_worth_35 6 rfl ?_
        refine V_aload_n hX dX6_worth_37 2 rfl ?_
        refine V_getF (j := 6) hX fk_X6_30 (tb_X9 ha1) (fun _ _ _ => rfl) dX6_worth_38 ?_
        refine V_aload_n hX dX6_worth_41 1 rfl ?_
        refine V_getF (j := 64) hX fk_X6_17 tb_62 (fun _ _ _ => rfl) dX6_worth_42 ?_
        refine V_iload hX dX6_worth_45 7 rfl ?_
        obtain ⟨hi14, hP⟩ := gd_e hP
        refine V_iald hX tb_64 hi14 dX6_worth_47 ?_
        obtain ⟨x16, w15, hcw15, hP⟩ := bnd_e hP
        refine V_callVi (As := [.int (gI w 64 x7.toNatClampNeg)]) (rest := [.int x6]) hX mk_X6_56 nk_X5_secondOf (fun l => c_X5_secondOf l S (by decide) hcw15) tb_6 rfl ⟨rfl, rfl, Nat.le_of_ble_eq_true rfl, Nat.le_of_ble_eq_true rfl⟩ rfl rfl (Nat.le_of_ble_eq_true rfl) dX6_worth_48 ?_
        refine V_iload_n hX dX6_worth_51 4 rfl ?_
        refine V_imul hX dX6_worth_52 ?_
        refine V_iadd hX dX6_worth_53 ?_
        refine V_topi (fun x17 ex17 => ?_)
        replace hP := lt_r ex17 hP
        refine V_istore (lv' := [(6, .int x17), (5, .int x13), (0, rf S 62), (1, rf S a1), (2, .int x2), (3, .int x3), (4, .int x4), (7, .int x7)]) hX dX6_worth_54 (by decide) rfl ?_
        obtain ⟨x18, ex18⟩ : ∃ y : Int32, y = x7 + 1 := ⟨_, rfl⟩
        replace hP := lt_r ex18 hP
        refine V_iinc (v := x18) (lv' := [(7, .int x18), (6, .int x17), (5, .int x13), (0, rf S 62), (1, rf S a1), (2, .int x2), (3, .int x3), (4, .int x4)]) hX dX6_worth_56 (j := 7) rfl (by decide) (by rw [ex18]; rfl) rfl ?_
        refine V_goto (tgt := 9) hX dX6_worth_59 (by decide) ?_
        refine V_sub (lv' := [(0, rf S 62), (1, rf S a1), (2, .int x2), (3, .int x3), (4, .int x4), (5, .int x13), (6, .int x17), (7, .int x18)]) [3, 4, 5, 6, 7, 2, 1, 0] rfl ?_
        exact ih _ _ _ _  hP
def K_X6_worth_62 (F : Nat) (a1 : Nat) (x2 : Int32) (x3 : Int32) (x4 : Int32)  (w : Wd) (x19 : Int32) (x20 : Int32) : Option (Int32 × Wd) := (if x4 = 1 then bnd (P_J6_bitCount_0f7a4 F w x19) (fun x27 w26 => some (x27, w26)) else lt (if x4 = 2 then x20 else 0 : Int32) (fun x24 => some (x24, w)))
set_option maxRecDepth 100000 in
set_option maxHeartbeats 4000000 in
theorem sK_X6_worth_62 {X : Cx} {S : Sx} {r : Int32 × Wd} {F : Nat} {a1 : Nat} {x2 : Int32} {x3 : Int32} {x4 : Int32}  {w : Wd} {x19 : Int32} {x20 : Int32} (hX : Ok X S cX6_worth RX6 8 rm_X6_worth) (hR : HRt X S cX6_worth .int r) (ha1 : isX9 a1 = true)   (hP : K_X6_worth_62 F a1 x2 x3 x4  w x19 x20 = some r) : V X S w 62 [(4, .int x4), (5, .int x19), (6, .int x20)] [] := by
  unfold K_X6_worth_62 at hP
  refine V_iload hX dX6_worth_62 0 rfl ?_
  refine V_iconst (v := 1) hX dX6_worth_64 (by decide) ?_
  refine V_icmp_ne (tgt := 76) hX dX6_worth_65 (by decide) (fun hc22 => ?_) (fun hc22 => ?_)
  · replace hP := ite_f hc22 hP
    refine V_iload hX dX6_worth_76 0 rfl ?_
    refine V_iconst (v := 2) hX dX6_worth_78 (by decide) ?_
    have k25 : V X S w 88 [(4, .int x4), (5, .int x19), (6, .int x20)] [.int (if x4 = 2 then x20 else 0)] := by
      refine V_topi (fun x24 ex24 => ?_)
      replace hP := lt_r ex24 hP
      exact hR _ _ _ _ (Option.some.inj hP) rfl dX6_worth_88
    refine V_icmp_ne (tgt := 87) hX dX6_worth_79 (by decide) (fun hc23 => ?_) (fun hc23 => ?_)
    · refine V_iconst (v := 0) hX dX6_worth_87 (by decide) ?_
      refine V_selF (c := x4 = 2) (a := x20) hc23 ?_
      exact k25
    · refine V_iload hX dX6_worth_82 2 rfl ?_
      refine V_goto (tgt := 88) hX dX6_worth_84 (by decide) ?_
      refine V_selT (c := x4 = 2) (b := 0) hc23 ?_
      exact k25
  · replace hP := ite_t hc22 hP
    refine V_iload hX dX6_worth_68 1 rfl ?_
    obtain ⟨x27, w26, hcw26, hP⟩ := bnd_e hP
    refine V_callSi (As := [.int x19]) (rest := []) hX mk_X6_60 nk_J6_bitCount_0f7a4 (fun l => c_J6_bitCount_0f7a4 l S  hcw26) ⟨rfl, rfl, Nat.le_of_ble_eq_true rfl, Nat.le_of_ble_eq_true rfl⟩ rfl rfl (Nat.le_of_ble_eq_true rfl) dX6_worth_70 ?_
    refine V_goto (tgt := 88) hX dX6_worth_73 (by decide) ?_
    exact hR _ _ _ _ (Option.some.inj hP) rfl dX6_worth_88
def P_X6_worth (F : Nat) (w : Wd) (a1 : Nat) (x2 : Int32) (x3 : Int32) (x4 : Int32) : Option (Int32 × Wd) := L_X6_worth_9 F a1 x2 x3 x4 (fun w x8 x9 => K_X6_worth_62 F a1 x2 x3 x4  w x8 x9) F w 0 0 0
set_option maxRecDepth 100000 in
set_option maxHeartbeats 4000000 in
theorem s_X6_worth {X : Cx} {S : Sx} {r : Int32 × Wd} {F : Nat} {w : Wd} {a1 : Nat} {x2 : Int32} {x3 : Int32} {x4 : Int32} (ha1 : isX9 a1 = true) (hX : Ok X S cX6_worth RX6 8 rm_X6_worth) (hR : HRt X S cX6_worth .int r) (hP : P_X6_worth F w a1 x2 x3 x4 = some r) : V X S w 0 [(0, rf S 62), (1, rf S a1), (2, .int x2), (3, .int x3), (4, .int x4)] [] := by
  unfold P_X6_worth at hP
  refine V_iconst (v := 0) hX dX6_worth_0 (by decide) ?_
  refine V_istore (lv' := [(5, .int 0), (0, rf S 62), (1, rf S a1), (2, .int x2), (3, .int x3), (4, .int x4)]) hX dX6_worth_1 (by decide) rfl ?_
  refine V_iconst (v := 0) hX dX6_worth_3 (by decide) ?_
  refine V_istore (lv' := [(6, .int 0), (5, .int 0), (0, rf S 62), (1, rf S a1), (2, .int x2), (3, .int x3), (4, .int x4)]) hX dX6_worth_4 (by decide) rfl ?_
  refine V_iconst (v := 0) hX dX6_worth_6 (by decide) ?_
  refine V_istore (lv' := [(7, .int 0), (6, .int 0), (5, .int 0), (0, rf S 62), (1, rf S a1), (2, .int x2), (3, .int x3), (4, .int x4)]) hX dX6_worth_7 (by decide) rfl ?_
  refine V_sub (lv' := [(0, rf S 62), (1, rf S a1), (2, .int x2), (3, .int x3), (4, .int x4), (5, .int 0), (6, .int 0), (7, .int 0)]) [3, 4, 5, 6, 7, 2, 1, 0] rfl ?_
  have k28 : ∀ (w : Wd) (x8 : Int32) (x9 : Int32) , (K_X6_worth_62 F a1 x2 x3 x4  w x8 x9) = some r → V X S w 62 [(4, .int x4), (5, .int x8), (6, .int x9)] [] := by
    intro w x8 x9  hP
    exact sK_X6_worth_62 hX hR ha1   hP
  exact sL_X6_worth_9 hX hR ha1 k28 F _ _ _ _  hP
theorem c_X6_worth (l : Launch) (S : Sx) {r : Int32 × Wd} {F : Nat} {w : Wd} {a1 : Nat} {x2 : Int32} {x3 : Int32} {x4 : Int32} (ha1 : isX9 a1 = true) (h : P_X6_worth F w a1 x2 x3 x4 = some r) : Met l yX6_worth (wsg yX6_worth cX6_worth 8 (some .int)) rm_X6_worth (PC S w [rf S 62, rf S a1, .int x2, .int x3, .int x4]) (QCi S r) 0 0 (Aw S) :=
  met_i (by decide) rfl (Nat.le_of_ble_eq_true rfl) ⟨rfl, rfl⟩ (fun X hX hR => s_X6_worth ha1 hX hR h)

-- MustNotStop$Tower.ring(LMustNotStop$Bell;)Z
abbrev rm_X9_ring : Room := { frames := 4, cells := 0, slots := 0, locals := 143 }
theorem nk_X9_ring : MNk yX9_ring RX9 1 := ⟨rfl, by decide, by decide, by decide +kernel⟩
def K_X9_ring_97 (F : Nat) (a1 : Nat) (a2 : Nat)  (w : Wd) (x10 : Int32) : Option (Int32 × Wd) := bnv (P_X1_workAndRest F w a2) (fun w11 => bnd (P_X5_secondsOf F w11 6 (gI w11 a2 1)) (fun x13 w12 => lt (sI w12 a2 7 ((gI w11 a2 7) + x13)) (fun w14 => lt (sI w14 a2 3 ((gI w14 a2 3) + 1)) (fun w15 => gd (isZO x10) (some (x10, w15))))))
set_option maxRecDepth 100000 in
set_option maxHeartbeats 4000000 in
theorem sK_X9_ring_97 {X : Cx} {S : Sx} {r : Int32 × Wd} {F : Nat} {a1 : Nat} {a2 : Nat}  {w : Wd} {x10 : Int32} (hX : Ok X S cX9_ring RX9 3 rm_X9_ring) (hR : HRt X S cX9_ring .boolean r) (ha1 : isX9 a1 = true) (ha2 : isX1 a2 = true)   (hP : K_X9_ring_97 F a1 a2  w x10 = some r) : V X S w 97 [(0, rf S a1), (1, rf S a2), (2, .int x10)] [] := by
  unfold K_X9_ring_97 at hP
  refine V_aload_n hX dX9_ring_97 1 rfl ?_
  obtain ⟨w11, hcw11, hP⟩ := bnv_e hP
  refine V_callVv (As := []) (rest := []) hX mk_X9_86 nk_X1_workAndRest (fun l => c_X1_workAndRest l S ha2 hcw11) (tb_X1 ha2) rfl ⟨rfl, rfl, Nat.le_of_ble_eq_true rfl, Nat.le_of_ble_eq_true rfl⟩ rfl rfl (Nat.le_of_ble_eq_true rfl) dX9_ring_98 ?_
  refine V_aload_n hX dX9_ring_101 1 rfl ?_
  refine V_dup hX dX9_ring_102 rfl ?_
  refine V_getI hX fk_X9_89 (tb_X1 ha2) (fun _ _ _ => rfl) dX9_ring_103 ?_
  refine V_aload_n hX dX9_ring_106 0 rfl ?_
  refine V_getF (j := 6) hX fk_X9_21 (tb_X9 ha1) (fun _ _ _ => rfl) dX9_ring_107 ?_
  refine V_aload_n hX dX9_ring_110 1 rfl ?_
  refine V_getI hX fk_X9_68 (tb_X1 ha2) (fun _ _ _ => rfl) dX9_ring_111 ?_
  obtain ⟨x13, w12, hcw12, hP⟩ := bnd_e hP
  refine V_callVi (As := [.int (gI w11 a2 1)]) (rest := [.int (gI w11 a2 7), rf S a2]) hX mk_X9_92 nk_X5_secondsOf (fun l => c_X5_secondsOf l S (by decide) hcw12) tb_6 rfl ⟨rfl, rfl, Nat.le_of_ble_eq_true rfl, Nat.le_of_ble_eq_true rfl⟩ rfl rfl (Nat.le_of_ble_eq_true rfl) dX9_ring_114 ?_
  refine V_iadd hX dX9_ring_117 ?_
  refine V_putI hX fw_X9_89 (tb_X1 ha2) (fun _ _ _ => ⟨Nat.le_of_ble_eq_true rfl, rfl⟩) dX9_ring_118 (fun w14 ew14 => ?_)
  replace hP := lt_r ew14 hP
  refine V_aload_n hX dX9_ring_121 1 rfl ?_
  refine V_dup hX dX9_ring_122 rfl ?_
  refine V_getI hX fk_X9_51 (tb_X1 ha2) (fun _ _ _ => rfl) dX9_ring_123 ?_
  refine V_iconst (v := 1) hX dX9_ring_126 (by decide) ?_
  refine V_iadd hX dX9_ring_127 ?_
  refine V_putI hX fw_X9_51 (tb_X1 ha2) (fun _ _ _ => ⟨Nat.le_of_ble_eq_true rfl, rfl⟩) dX9_ring_128 (fun w15 ew15 => ?_)
  replace hP := lt_r ew15 hP
  refine V_iload_n hX dX9_ring_131 2 rfl ?_
  obtain ⟨hz16, hP⟩ := gd_e hP
  exact hR _ _ _ _ (Option.some.inj hP) (nar_z hz16) dX9_ring_132
def P_X9_ring (F : Nat) (w : Wd) (a1 : Nat) (a2 : Nat) : Option (Int32 × Wd) := bnd (P_X9_volume F w a1 a2 (gI w a2 1)) (fun x4 w3 => lt (if x4 ≤ 0 then 0 else 1 : Int32) (fun x6 => (if x6 = 0 then lt (sI w3 a2 5 ((gI w3 a2 5) + 1)) (fun w8 => (if (gI w8 a2 5) = ((gI w8 a1 5) + 1) then lt (sI w8 a2 6 ((gI w8 a2 6) + 1)) (fun w17 => K_X9_ring_97 F a1 a2  w17 x6) else K_X9_ring_97 F a1 a2  w8 x6)) else lt (sI w3 a2 4 ((gI w3 a2 4) + 1)) (fun w18 => lt (sI w18 a2 5 0) (fun w19 => (if (iremI (gI w19 a2 4) 10) = 0 then lt (sI w19 a2 2 (maxI 0 ((gI w19 a2 2) - 1))) (fun w22 => K_X9_ring_97 F a1 a2  w22 x6) else K_X9_ring_97 F a1 a2  w19 x6))))))
set_option maxRecDepth 100000 in
set_option maxHeartbeats 4000000 in
theorem s_X9_ring {X : Cx} {S : Sx} {r : Int32 × Wd} {F : Nat} {w : Wd} {a1 : Nat} {a2 : Nat} (ha1 : isX9 a1 = true) (ha2 : isX1 a2 = true) (hX : Ok X S cX9_ring RX9 3 rm_X9_ring) (hR : HRt X S cX9_ring .boolean r) (hP : P_X9_ring F w a1 a2 = some r) : V X S w 0 [(0, rf S a1), (1, rf S a2)] [] := by
  unfold P_X9_ring at hP
  refine V_aload_n hX dX9_ring_0 0 rfl ?_
  refine V_aload_n hX dX9_ring_1 1 rfl ?_
  refine V_aload_n hX dX9_ring_2 1 rfl ?_
  refine V_getI hX fk_X9_68 (tb_X1 ha2) (fun _ _ _ => rfl) dX9_ring_3 ?_
  obtain ⟨x4, w3, hcw3, hP⟩ := bnd_e hP
  refine V_callVi (As := [rf S a2, .int (gI w a2 1)]) (rest := []) hX mk_X9_64 nk_X9_volume (fun l => c_X9_volume l S ha1 ha2 hcw3) (tb_X9 ha1) rfl ⟨rfl, rfl, Nat.le_of_ble_eq_true rfl, Nat.le_of_ble_eq_true rfl⟩ rfl rfl (Nat.le_of_ble_eq_true rfl) dX9_ring_6 ?_
  have k23 : V X S w3 17 [(0, rf S a1), (1, rf S a2)] [.int (if x4 ≤ 0 then 0 else 1)] := by
    refine V_topi (fun x6 ex6 => ?_)
    replace hP := lt_r ex6 hP
    refine V_istore_n (lv' := [(2, .int x6), (0, rf S a1), (1, rf S a2)]) hX dX9_ring_17 (by decide) rfl ?_
    refine V_iload_n hX dX9_ring_18 0 rfl ?_
    refine V_if_eq (tgt := 64) hX dX9_ring_19 (by decide) (fun hc7 => ?_) (fun hc7 => ?_)
    · replace hP := ite_t hc7 hP
      refine V_aload_n hX dX9_ring_64 2 rfl ?_
      refine V_dup hX dX9_ring_65 rfl ?_
      refine V_getI hX fk_X9_74 (tb_X1 ha2) (fun _ _ _ => rfl) dX9_ring_66 ?_
      refine V_iconst (v := 1) hX dX9_ring_69 (by decide) ?_
      refine V_iadd hX dX9_ring_70 ?_
      refine V_putI hX fw_X9_74 (tb_X1 ha2) (fun _ _ _ => ⟨Nat.le_of_ble_eq_true rfl, rfl⟩) dX9_ring_71 (fun w8 ew8 => ?_)
      replace hP := lt_r ew8 hP
      refine V_aload_n hX dX9_ring_74 2 rfl ?_
      refine V_getI hX fk_X9_74 (tb_X1 ha2) (fun _ _ _ => rfl) dX9_ring_75 ?_
      refine V_aload_n hX dX9_ring_78 1 rfl ?_
      refine V_getI hX fk_X9_18 (tb_X9 ha1) (fun _ _ _ => rfl) dX9_ring_79 ?_
      refine V_iconst (v := 1) hX dX9_ring_82 (by decide) ?_
      refine V_iadd hX dX9_ring_83 ?_
      refine V_icmp_ne (tgt := 97) hX dX9_ring_84 (by decide) (fun hc9 => ?_) (fun hc9 => ?_)
      · replace hP := ite_f hc9 hP
        refine V_sub (lv' := [(0, rf S a1), (1, rf S a2), (2, .int x6)]) [1, 2, 0] rfl ?_
        exact sK_X9_ring_97 hX hR ha1 ha2   hP
      · replace hP := ite_t hc9 hP
        refine V_aload_n hX dX9_ring_87 2 rfl ?_
        refine V_dup hX dX9_ring_88 rfl ?_
        refine V_getI hX fk_X9_83 (tb_X1 ha2) (fun _ _ _ => rfl) dX9_ring_89 ?_
        refine V_iconst (v := 1) hX dX9_ring_92 (by decide) ?_
        refine V_iadd hX dX9_ring_93 ?_
        refine V_putI hX fw_X9_83 (tb_X1 ha2) (fun _ _ _ => ⟨Nat.le_of_ble_eq_true rfl, rfl⟩) dX9_ring_94 (fun w17 ew17 => ?_)
        replace hP := lt_r ew17 hP
        refine V_sub (lv' := [(0, rf S a1), (1, rf S a2), (2, .int x6)]) [1, 2, 0] rfl ?_
        exact sK_X9_ring_97 hX hR ha1 ha2   hP
    · replace hP := ite_f hc7 hP
      refine V_aload_n hX dX9_ring_22 2 rfl ?_
      refine V_dup hX dX9_ring_23 rfl ?_
      refine V_getI hX fk_X9_71 (tb_X1 ha2) (fun _ _ _ => rfl) dX9_ring_24 ?_
      refine V_iconst (v := 1) hX dX9_ring_27 (by decide) ?_
      refine V_iadd hX dX9_ring_28 ?_
      refine V_putI hX fw_X9_71 (tb_X1 ha2) (fun _ _ _ => ⟨Nat.le_of_ble_eq_true rfl, rfl⟩) dX9_ring_29 (fun w18 ew18 => ?_)
      replace hP := lt_r ew18 hP
      refine V_aload_n hX dX9_ring_32 2 rfl ?_
      refine V_iconst (v := 0) hX dX9_ring_33 (by decide) ?_
      refine V_putI hX fw_X9_74 (tb_X1 ha2) (fun _ _ _ => ⟨Nat.le_of_ble_eq_true rfl, rfl⟩) dX9_ring_34 (fun w19 ew19 => ?_)
      replace hP := lt_r ew19 hP
      refine V_aload_n hX dX9_ring_37 2 rfl ?_
      refine V_getI hX fk_X9_71 (tb_X1 ha2) (fun _ _ _ => rfl) dX9_ring_38 ?_
      refine V_bipush (v := 10) hX dX9_ring_41 (by decide) ?_
      refine V_irem hX dX9_ring_43 (by decide) ?_
      refine V_if_ne (tgt := 97) hX dX9_ring_44 (by decide) (fun hc21 => ?_) (fun hc21 => ?_)
      · replace hP := ite_f hc21 hP
        refine V_sub (lv' := [(0, rf S a1), (1, rf S a2), (2, .int x6)]) [1, 2, 0] rfl ?_
        exact sK_X9_ring_97 hX hR ha1 ha2   hP
      · replace hP := ite_t hc21 hP
        refine V_aload_n hX dX9_ring_47 2 rfl ?_
        refine V_iconst (v := 0) hX dX9_ring_48 (by decide) ?_
        refine V_aload_n hX dX9_ring_49 2 rfl ?_
        refine V_getI hX fk_X9_32 (tb_X1 ha2) (fun _ _ _ => rfl) dX9_ring_50 ?_
        refine V_iconst (v := 1) hX dX9_ring_53 (by decide) ?_
        refine V_isub hX dX9_ring_54 ?_
        refine V_max hX mk_X9_77 ⟨Nat.le_of_ble_eq_true rfl, Nat.le_of_ble_eq_true rfl⟩ dX9_ring_55 ?_
        refine V_putI hX fw_X9_32 (tb_X1 ha2) (fun _ _ _ => ⟨Nat.le_of_ble_eq_true rfl, rfl⟩) dX9_ring_58 (fun w22 ew22 => ?_)
        replace hP := lt_r ew22 hP
        refine V_goto (tgt := 97) hX dX9_ring_61 (by decide) ?_
        refine V_sub (lv' := [(0, rf S a1), (1, rf S a2), (2, .int x6)]) [1, 2, 0] rfl ?_
        exact sK_X9_ring_97 hX hR ha1 ha2   hP
  refine V_if_le (tgt := 16) hX dX9_ring_9 (by decide) (fun hc5 => ?_) (fun hc5 => ?_)
  · refine V_iconst (v := 0) hX dX9_ring_16 (by decide) ?_
    refine V_selT (c := x4 ≤ 0) (b := 1) hc5 ?_
    exact k23
  · refine V_iconst (v := 1) hX dX9_ring_12 (by decide) ?_
    refine V_goto (tgt := 17) hX dX9_ring_13 (by decide) ?_
    refine V_selF (c := x4 ≤ 0) (a := 0) hc5 ?_
    exact k23
theorem c_X9_ring (l : Launch) (S : Sx) {r : Int32 × Wd} {F : Nat} {w : Wd} {a1 : Nat} {a2 : Nat} (ha1 : isX9 a1 = true) (ha2 : isX1 a2 = true) (h : P_X9_ring F w a1 a2 = some r) : Met l yX9_ring (wsg yX9_ring cX9_ring 3 (some .boolean)) rm_X9_ring (PC S w [rf S a1, rf S a2]) (QCi S r) 0 0 (Aw S) :=
  met_i (by decide) rfl (Nat.le_of_ble_eq_true rfl) ⟨rfl, rfl⟩ (fun X hX hR => s_X9_ring ha1 ha2 hX hR h)

-- MustNotStop$Rotas.goes(LMustNotStop$Tower;II)Z
abbrev rm_X6_goes : Room := { frames := 5, cells := 0, slots := 0, locals := 165 }
theorem nk_X6_goes : MNk yX6_goes RX6 3 := ⟨rfl, by decide, by decide, by decide +kernel⟩
def L_X6_goes_55 (F : Nat) (a1 : Nat) (x2 : Int32) (x3 : Int32) (a14 : Nat) (x15 : Int32) (k84 : Wd → Option (Int32 × Wd)) : Nat → Wd → Int32 → Option (Int32 × Wd)
  | 0, _, _ => none
  | n + 1, w, x16 => (if x3 ≤ x16 then k84 w  else (if (gI w a14 6) = x15 then bnd (P_X9_ring F w a1 a14) (fun x20 w19 => lt (x16 + 1 : Int32) (fun x21 => L_X6_goes_55 F a1 x2 x3 a14 x15 k84 n w19 x21)) else k84 w ))
set_option maxRecDepth 100000 in
set_option maxHeartbeats 4000000 in
theorem sL_X6_goes_55 {X : Cx} {S : Sx} {r : Int32 × Wd} {F : Nat} {a1 : Nat} {x2 : Int32} {x3 : Int32} {a14 : Nat} {x15 : Int32} {k84 : Wd → Option (Int32 × Wd)} (hX : Ok X S cX6_goes RX6 7 rm_X6_goes) (hR : HRt X S cX6_goes .boolean r) (ha1 : isX9 a1 = true) (ha14 : isX1 a14 = true) (hk84 : ∀ (w : Wd), k84 w = some r → V X S w 84 [(4, rf S a14), (5, .int x15)] []) : ∀ (n : Nat) (w : Wd) (x16 : Int32) , L_X6_goes_55 F a1 x2 x3 a14 x15 k84 n w x16 = some r → V X S w 55 [(1, rf S a1), (3, .int x3), (4, rf S a14), (5, .int x15), (6, .int x16), (0, rf S 62), (2, .int x2)] [] := by
  intro n
  induction n with
  | zero =>
    intro w x16  hP
    exact nn hP
  | succ n ih =>
    intro w x16  hP
    rw [L_X6_goes_55] at hP
    refine V_iload hX dX6_goes_55 4 rfl ?_
    refine V_iload_n hX dX6_goes_57 1 rfl ?_
    refine V_icmp_ge (tgt := 84) hX dX6_goes_58 (by decide) (fun hc17 => ?_) (fun hc17 => ?_)
    · replace hP := ite_t hc17 hP
      refine V_sub (lv' := [(4, rf S a14), (5, .int x15)]) [2, 3] rfl ?_
      exact hk84 _   hP
    · replace hP := ite_f hc17 hP
      refine V_aload hX dX6_goes_61 2 rfl ?_
      refine V_getI hX fk_X6_68 (tb_X1 ha14) (fun _ _ _ => rfl) dX6_goes_63 ?_
      refine V_iload hX dX6_goes_66 3 rfl ?_
      refine V_icmp_ne (tgt := 84) hX dX6_goes_68 (by decide) (fun hc18 => ?_) (fun hc18 => ?_)
      · replace hP := ite_f hc18 hP
        refine V_sub (lv' := [(4, rf S a14), (5, .int x15)]) [2, 3] rfl ?_
        exact hk84 _   hP
      · replace hP := ite_t hc18 hP
        refine V_aload_n hX dX6_goes_71 0 rfl ?_
        refine V_aload hX dX6_goes_72 2 rfl ?_
        obtain ⟨x20, w19, hcw19, hP⟩ := bnd_e hP
        refine V_callVi (As := [rf S a14]) (rest := []) hX mk_X6_71 nk_X9_ring (fun l => c_X9_ring l S ha1 ha14 hcw19) (tb_X9 ha1) rfl ⟨rfl, rfl, Nat.le_of_ble_eq_true rfl, Nat.le_of_ble_eq_true rfl⟩ rfl rfl (Nat.le_of_ble_eq_true rfl) dX6_goes_74 ?_
        refine V_pop hX dX6_goes_77 rfl ?_
        obtain ⟨x21, ex21⟩ : ∃ y : Int32, y = x16 + 1 := ⟨_, rfl⟩
        replace hP := lt_r ex21 hP
        refine V_iinc (v := x21) (lv' := [(6, .int x21), (1, rf S a1), (3, .int x3), (4, rf S a14), (5, .int x15), (0, rf S 62), (2, .int x2)]) hX dX6_goes_78 (j := 4) rfl (by decide) (by rw [ex21]; rfl) rfl ?_
        refine V_goto (tgt := 55) hX dX6_goes_81 (by decide) ?_
        refine V_sub (lv' := [(1, rf S a1), (3, .int x3), (4, rf S a14), (5, .int x15), (6, .int x21), (0, rf S 62), (2, .int x2)]) [1, 2, 3, 4, 0, 5, 6] rfl ?_
        exact ih _ _  hP
def K_X6_goes_84 (F : Nat) (a1 : Nat) (x2 : Int32) (x3 : Int32)  (w : Wd) (a22 : Nat) (x23 : Int32) : Option (Int32 × Wd) := lt (if (gI w a22 6) = x23 then 1 else 0 : Int32) (fun x25 => gd (isZO x25) (some (x25, w)))
set_option maxRecDepth 100000 in
set_option maxHeartbeats 4000000 in
theorem sK_X6_goes_84 {X : Cx} {S : Sx} {r : Int32 × Wd} {F : Nat} {a1 : Nat} {x2 : Int32} {x3 : Int32}  {w : Wd} {a22 : Nat} {x23 : Int32} (hX : Ok X S cX6_goes RX6 7 rm_X6_goes) (hR : HRt X S cX6_goes .boolean r) (ha1 : isX9 a1 = true)  (ha22 : isX1 a22 = true) (hP : K_X6_goes_84 F a1 x2 x3  w a22 x23 = some r) : V X S w 84 [(4, rf S a22), (5, .int x23)] [] := by
  unfold K_X6_goes_84 at hP
  refine V_aload hX dX6_goes_84 0 rfl ?_
  refine V_getI hX fk_X6_68 (tb_X1 ha22) (fun _ _ _ => rfl) dX6_goes_86 ?_
  refine V_iload hX dX6_goes_89 1 rfl ?_
  have k27 : V X S w 99 [(4, rf S a22), (5, .int x23)] [.int (if (gI w a22 6) = x23 then 1 else 0)] := by
    refine V_topi (fun x25 ex25 => ?_)
    replace hP := lt_r ex25 hP
    obtain ⟨hz26, hP⟩ := gd_e hP
    exact hR _ _ _ _ (Option.some.inj hP) (nar_z hz26) dX6_goes_99
  refine V_icmp_ne (tgt := 98) hX dX6_goes_91 (by decide) (fun hc24 => ?_) (fun hc24 => ?_)
  · refine V_iconst (v := 0) hX dX6_goes_98 (by decide) ?_
    refine V_selF (c := (gI w a22 6) = x23) (a := 1) hc24 ?_
    exact k27
  · refine V_iconst (v := 1) hX dX6_goes_94 (by decide) ?_
    refine V_goto (tgt := 99) hX dX6_goes_95 (by decide) ?_
    refine V_selT (c := (gI w a22 6) = x23) (b := 0) hc24 ?_
    exact k27
def P_X6_goes (F : Nat) (w : Wd) (a1 : Nat) (x2 : Int32) (x3 : Int32) : Option (Int32 × Wd) := (if x2 < 0 then some (0, w) else (if x2 < 4 then gd (inB (x2 + 1) 5) (lt (66 + 2 * (x2 + 1).toNatClampNeg) (fun a7 => gd (isX1 a7) (gd (inB x2 5) (lt (66 + 2 * x2.toNatClampNeg) (fun a9 => gd (isX1 a9) (bnv (P_X1_copy F w a7 a9) (fun w10 => gd (inB x2 4) (lt (sI w10 a7 1 (ishlI 1 (gI w10 64 x2.toNatClampNeg))) (fun w12 => lt (gI w12 a7 6 : Int32) (fun x13 => L_X6_goes_55 F a1 x2 x3 a7 x13 (fun w  => K_X6_goes_84 F a1 x2 x3  w a7 x13) F w12 0)))))))))) else some (0, w)))
set_option maxRecDepth 100000 in
set_option maxHeartbeats 4000000 in
theorem s_X6_goes {X : Cx} {S : Sx} {r : Int32 × Wd} {F : Nat} {w : Wd} {a1 : Nat} {x2 : Int32} {x3 : Int32} (ha1 : isX9 a1 = true) (hX : Ok X S cX6_goes RX6 7 rm_X6_goes) (hR : HRt X S cX6_goes .boolean r) (hP : P_X6_goes F w a1 x2 x3 = some r) : V X S w 0 [(0, rf S 62), (1, rf S a1), (2, .int x2), (3, .int x3)] [] := by
  unfold P_X6_goes at hP
  refine V_iload_n hX dX6_goes_0 2 rfl ?_
  refine V_if_lt (tgt := 9) hX dX6_goes_1 (by decide) (fun hc4 => ?_) (fun hc4 => ?_)
  · replace hP := ite_t hc4 hP
    refine V_iconst (v := 0) hX dX6_goes_9 (by decide) ?_
    exact hR _ _ _ _ (Option.some.inj hP) rfl dX6_goes_10
  · replace hP := ite_f hc4 hP
    refine V_iload_n hX dX6_goes_4 2 rfl ?_
    refine V_iconst (v := 4) hX dX6_goes_5 (by decide) ?_
    refine V_icmp_lt (tgt := 11) hX dX6_goes_6 (by decide) (fun hc5 => ?_) (fun hc5 => ?_)
    · replace hP := ite_t hc5 hP
      refine V_aload_n hX dX6_goes_11 0 rfl ?_
      refine V_getF (j := 63) hX fk_X6_13 tb_62 (fun _ _ _ => rfl) dX6_goes_12 ?_
      refine V_iload_n hX dX6_goes_15 2 rfl ?_
      refine V_iconst (v := 1) hX dX6_goes_16 (by decide) ?_
      refine V_iadd hX dX6_goes_17 ?_
      obtain ⟨hi6, hP⟩ := gd_e hP
      refine V_aald hX tb_63 hi6 dX6_goes_18 ?_
      refine V_topr (fun a7 ea7 => ?_)
      replace hP := lt_r ea7 hP
      obtain ⟨ha7, hP⟩ := gd_e hP
      refine V_astore (lv' := [(4, rf S a7), (0, rf S 62), (1, rf S a1), (2, .int x2), (3, .int x3)]) hX dX6_goes_19 (by decide) rfl ?_
      refine V_aload hX dX6_goes_21 0 rfl ?_
      refine V_aload_n hX dX6_goes_23 1 rfl ?_
      refine V_getF (j := 63) hX fk_X6_13 tb_62 (fun _ _ _ => rfl) dX6_goes_24 ?_
      refine V_iload_n hX dX6_goes_27 3 rfl ?_
      obtain ⟨hi8, hP⟩ := gd_e hP
      refine V_aald hX tb_63 hi8 dX6_goes_28 ?_
      refine V_topr (fun a9 ea9 => ?_)
      replace hP := lt_r ea9 hP
      obtain ⟨ha9, hP⟩ := gd_e hP
      obtain ⟨w10, hcw10, hP⟩ := bnv_e hP
      refine V_callVv (As := [rf S a9]) (rest := []) hX mk_X6_25 nk_X1_copy (fun l => c_X1_copy l S ha7 ha9 hcw10) (tb_X1 ha7) rfl ⟨rfl, rfl, Nat.le_of_ble_eq_true rfl, Nat.le_of_ble_eq_true rfl⟩ rfl rfl (Nat.le_of_ble_eq_true rfl) dX6_goes_29 ?_
      refine V_aload hX dX6_goes_32 0 rfl ?_
      refine V_iconst (v := 1) hX dX6_goes_34 (by decide) ?_
      refine V_aload_n hX dX6_goes_35 1 rfl ?_
      refine V_getF (j := 64) hX fk_X6_17 tb_62 (fun _ _ _ => rfl) dX6_goes_36 ?_
      refine V_iload_n hX dX6_goes_39 3 rfl ?_
      obtain ⟨hi11, hP⟩ := gd_e hP
      refine V_iald hX tb_64 hi11 dX6_goes_40 ?_
      refine V_ishl hX dX6_goes_41 ?_
      refine V_putI hX fw_X6_65 (tb_X1 ha7) (fun _ _ _ => ⟨Nat.le_of_ble_eq_true rfl, rfl⟩) dX6_goes_42 (fun w12 ew12 => ?_)
      replace hP := lt_r ew12 hP
      refine V_aload hX dX6_goes_45 0 rfl ?_
      refine V_getI hX fk_X6_68 (tb_X1 ha7) (fun _ _ _ => rfl) dX6_goes_47 ?_
      refine V_topi (fun x13 ex13 => ?_)
      replace hP := lt_r ex13 hP
      refine V_istore (lv' := [(5, .int x13), (4, rf S a7), (0, rf S 62), (1, rf S a1), (2, .int x2), (3, .int x3)]) hX dX6_goes_50 (by decide) rfl ?_
      refine V_iconst (v := 0) hX dX6_goes_52 (by decide) ?_
      refine V_istore (lv' := [(6, .int 0), (5, .int x13), (4, rf S a7), (0, rf S 62), (1, rf S a1), (2, .int x2), (3, .int x3)]) hX dX6_goes_53 (by decide) rfl ?_
      refine V_sub (lv' := [(1, rf S a1), (3, .int x3), (4, rf S a7), (5, .int x13), (6, .int 0), (0, rf S 62), (2, .int x2)]) [4, 6, 2, 1, 0, 3, 5] rfl ?_
      have k28 : ∀ (w : Wd)  , (K_X6_goes_84 F a1 x2 x3  w a7 x13) = some r → V X S w 84 [(4, rf S a7), (5, .int x13)] [] := by
        intro w   hP
        exact sK_X6_goes_84 hX hR ha1  ha7 hP
      exact sL_X6_goes_55 hX hR ha1 ha7 k28 F _ _  hP
    · replace hP := ite_f hc5 hP
      refine V_iconst (v := 0) hX dX6_goes_9 (by decide) ?_
      exact hR _ _ _ _ (Option.some.inj hP) rfl dX6_goes_10
theorem c_X6_goes (l : Launch) (S : Sx) {r : Int32 × Wd} {F : Nat} {w : Wd} {a1 : Nat} {x2 : Int32} {x3 : Int32} (ha1 : isX9 a1 = true) (h : P_X6_goes F w a1 x2 x3 = some r) : Met l yX6_goes (wsg yX6_goes cX6_goes 7 (some .boolean)) rm_X6_goes (PC S w [rf S 62, rf S a1, .int x2, .int x3]) (QCi S r) 0 0 (Aw S) :=
  met_i (by decide) rfl (Nat.le_of_ble_eq_true rfl) ⟨rfl, rfl⟩ (fun X hX hR => s_X6_goes ha1 hX hR h)

-- MustNotStop$Rotas.search(LMustNotStop$Tower;LMustNotStop$Bell;III)I
abbrev rm_X6_search : Room := { frames := 6, cells := 0, slots := 0, locals := 191 }
theorem nk_X6_search : MNk yX6_search RX6 5 := ⟨rfl, by decide, by decide, by decide +kernel⟩
def K_X6_search_174 (F : Nat) (a1 : Nat) (a2 : Nat) (x3 : Int32) (x4 : Int32) (x5 : Int32) (k180 : Wd → Int32 → Option (Int32 × Wd)) (rc : Wd → Int32 → Int32 → Int32 → Option (Int32 × Wd)) (w : Wd) (x39 : Int32) (x40 : Int32) (x41 : Int32) : Option (Int32 × Wd) := lt (x41 + 1 : Int32) (fun x42 => rc w x39 x40 x42)
set_option maxRecDepth 100000 in
set_option maxHeartbeats 4000000 in
theorem sK_X6_search_174 {X : Cx} {S : Sx} {r : Int32 × Wd} {F : Nat} {a1 : Nat} {a2 : Nat} {x3 : Int32} {x4 : Int32} {x5 : Int32} {k180 : Wd → Int32 → Option (Int32 × Wd)} {rc : Wd → Int32 → Int32 → Int32 → Option (Int32 × Wd)} {w : Wd} {x39 : Int32} {x40 : Int32} {x41 : Int32} (hX : Ok X S cX6_search RX6 10 rm_X6_search) (hR : HRt X S cX6_search .int r) (ha1 : isX9 a1 = true) (ha2 : isX1 a2 = true) (hk180 : ∀ (w : Wd) (x14 : Int32) , k180 w x14 = some r → V X S w 180 [(6, .int x14)] []) (hrc : ∀ (w : Wd) (x11 : Int32) (x12 : Int32) (x13 : Int32) , rc w x11 x12 x13 = some r → V X S w 26 [(0, rf S 62), (1, rf S a1), (3, .int x3), (4, .int x4), (5, .int x5), (6, .int x11), (7, .int x12), (8, .int x13), (2, rf S a2)] [])  (hP : K_X6_search_174 F a1 a2 x3 x4 x5 k180 rc w x39 x40 x41 = some r) : V X S w 174 [(0, rf S 62), (1, rf S a1), (2, rf S a2), (3, .int x3), (4, .int x4), (5, .int x5), (6, .int x39), (7, .int x40), (8, .int x41)] [] := by
  unfold K_X6_search_174 at hP
  obtain ⟨x42, ex42⟩ : ∃ y : Int32, y = x41 + 1 := ⟨_, rfl⟩
  replace hP := lt_r ex42 hP
  refine V_iinc (v := x42) (lv' := [(8, .int x42), (0, rf S 62), (1, rf S a1), (2, rf S a2), (3, .int x3), (4, .int x4), (5, .int x5), (6, .int x39), (7, .int x40)]) hX dX6_search_174 (j := 8) rfl (by decide) (by rw [ex42]; rfl) rfl ?_
  refine V_goto (tgt := 26) hX dX6_search_177 (by decide) ?_
  refine V_sub (lv' := [(0, rf S 62), (1, rf S a1), (3, .int x3), (4, .int x4), (5, .int x5), (6, .int x39), (7, .int x40), (8, .int x42), (2, rf S a2)]) [1, 2, 4, 5, 6, 7, 8, 0, 3] rfl ?_
  exact hrc _ _ _ _  hP
def K_X6_search_148 (F : Nat) (a1 : Nat) (a2 : Nat) (x3 : Int32) (x4 : Int32) (x5 : Int32) (k180 : Wd → Int32 → Option (Int32 × Wd)) (rc : Wd → Int32 → Int32 → Int32 → Option (Int32 × Wd)) (w : Wd) (x34 : Int32) (x35 : Int32) (x36 : Int32) : Option (Int32 × Wd) := lt (sA w 65 (va_cpy (w.1 64) (w.1 65) 0 0 4)) (fun w37 => (if x5 = 0 then some (x36, w37) else K_X6_search_174 F a1 a2 x3 x4 x5 k180 rc w37 x36 x34 x35))
set_option maxRecDepth 100000 in
set_option maxHeartbeats 4000000 in
theorem sK_X6_search_148 {X : Cx} {S : Sx} {r : Int32 × Wd} {F : Nat} {a1 : Nat} {a2 : Nat} {x3 : Int32} {x4 : Int32} {x5 : Int32} {k180 : Wd → Int32 → Option (Int32 × Wd)} {rc : Wd → Int32 → Int32 → Int32 → Option (Int32 × Wd)} {w : Wd} {x34 : Int32} {x35 : Int32} {x36 : Int32} (hX : Ok X S cX6_search RX6 10 rm_X6_search) (hR : HRt X S cX6_search .int r) (ha1 : isX9 a1 = true) (ha2 : isX1 a2 = true) (hk180 : ∀ (w : Wd) (x14 : Int32) , k180 w x14 = some r → V X S w 180 [(6, .int x14)] []) (hrc : ∀ (w : Wd) (x11 : Int32) (x12 : Int32) (x13 : Int32) , rc w x11 x12 x13 = some r → V X S w 26 [(0, rf S 62), (1, rf S a1), (3, .int x3), (4, .int x4), (5, .int x5), (6, .int x11), (7, .int x12), (8, .int x13), (2, rf S a2)] [])  (hP : K_X6_search_148 F a1 a2 x3 x4 x5 k180 rc w x34 x35 x36 = some r) : V X S w 148 [(0, rf S 62), (1, rf S a1), (2, rf S a2), (3, .int x3), (4, .int x4), (5, .int x5), (7, .int x34), (8, .int x35), (9, .int x36)] [] := by
  unfold K_X6_search_148 at hP
  refine V_iload hX dX6_search_148 8 rfl ?_
  refine V_istore (lv' := [(6, .int x36), (0, rf S 62), (1, rf S a1), (2, rf S a2), (3, .int x3), (4, .int x4), (5, .int x5), (7, .int x34), (8, .int x35), (9, .int x36)]) hX dX6_search_150 (by decide) rfl ?_
  refine V_aload_n hX dX6_search_152 1 rfl ?_
  refine V_getF (j := 64) hX fk_X6_17 tb_62 (fun _ _ _ => rfl) dX6_search_153 ?_
  refine V_iconst (v := 0) hX dX6_search_156 (by decide) ?_
  refine V_aload_n hX dX6_search_157 1 rfl ?_
  refine V_getF (j := 65) hX fk_X6_21 tb_62 (fun _ _ _ => rfl) dX6_search_158 ?_
  refine V_iconst (v := 0) hX dX6_search_161 (by decide) ?_
  refine V_iconst (v := 4) hX dX6_search_162 (by decide) ?_
  refine V_copy hX tb_64 tb_65 ⟨by decide, by decide, by decide, by decide, by decide⟩ ⟨Nat.le_of_ble_eq_true rfl, Nat.le_of_ble_eq_true rfl⟩ dX6_search_163 (fun w37 ew37 => ?_)
  replace hP := lt_r ew37 hP
  refine V_iload hX dX6_search_166 6 rfl ?_
  refine V_if_ne (tgt := 174) hX dX6_search_168 (by decide) (fun hc38 => ?_) (fun hc38 => ?_)
  · replace hP := ite_f hc38 hP
    refine V_sub (lv' := [(0, rf S 62), (1, rf S a1), (2, rf S a2), (3, .int x3), (4, .int x4), (5, .int x5), (6, .int x36), (7, .int x34), (8, .int x35)]) [1, 2, 3, 4, 5, 6, 0, 7, 8] rfl ?_
    exact sK_X6_search_174 hX hR ha1 ha2 hk180 hrc  hP
  · replace hP := ite_t hc38 hP
    refine V_iload hX dX6_search_171 0 rfl ?_
    exact hR _ _ _ _ (Option.some.inj hP) rfl dX6_search_173
def K_X6_search_103 (F : Nat) (a1 : Nat) (a2 : Nat) (x3 : Int32) (x4 : Int32) (x5 : Int32) (k180 : Wd → Int32 → Option (Int32 × Wd)) (rc : Wd → Int32 → Int32 → Int32 → Option (Int32 × Wd)) (w : Wd) (x26 : Int32) (x27 : Int32) (x28 : Int32) (x29 : Int32) : Option (Int32 × Wd) := bnd (P_X6_goes F w a1 x27 x4) (fun x31 w30 => (if x31 = 0 then K_X6_search_174 F a1 a2 x3 x4 x5 k180 rc w30 x26 x27 x28 else (if x3 ≤ (x27 + 1) then K_X6_search_148 F a1 a2 x3 x4 x5 k180 rc w30 x27 x28 x29 else (if (4 : Int32) ≤ (x27 + 1) then K_X6_search_148 F a1 a2 x3 x4 x5 k180 rc w30 x27 x28 x29 else lt (x27 + 1 : Int32) (fun x44 => gd (inB x44 4) (lt (sI w30 64 x44.toNatClampNeg ((-1))) (fun w46 => K_X6_search_174 F a1 a2 x3 x4 x5 k180 rc w46 x26 x44 x28)))))))
set_option maxRecDepth 100000 in
set_option maxHeartbeats 4000000 in
theorem sK_X6_search_103 {X : Cx} {S : Sx} {r : Int32 × Wd} {F : Nat} {a1 : Nat} {a2 : Nat} {x3 : Int32} {x4 : Int32} {x5 : Int32} {k180 : Wd → Int32 → Option (Int32 × Wd)} {rc : Wd → Int32 → Int32 → Int32 → Option (Int32 × Wd)} {w : Wd} {x26 : Int32} {x27 : Int32} {x28 : Int32} {x29 : Int32} (hX : Ok X S cX6_search RX6 10 rm_X6_search) (hR : HRt X S cX6_search .int r) (ha1 : isX9 a1 = true) (ha2 : isX1 a2 = true) (hk180 : ∀ (w : Wd) (x14 : Int32) , k180 w x14 = some r → V X S w 180 [(6, .int x14)] []) (hrc : ∀ (w : Wd) (x11 : Int32) (x12 : Int32) (x13 : Int32) , rc w x11 x12 x13 = some r → V X S w 26 [(0, rf S 62), (1, rf S a1), (3, .int x3), (4, .int x4), (5, .int x5), (6, .int x11), (7, .int x12), (8, .int x13), (2, rf S a2)] [])  (hP : K_X6_search_103 F a1 a2 x3 x4 x5 k180 rc w x26 x27 x28 x29 = some r) : V X S w 103 [(0, rf S 62), (1, rf S a1), (2, rf S a2), (3, .int x3), (4, .int x4), (5, .int x5), (6, .int x26), (7, .int x27), (8, .int x28), (9, .int x29)] [] := by
  unfold K_X6_search_103 at hP
  refine V_aload_n hX dX6_search_103 0 rfl ?_
  refine V_aload_n hX dX6_search_104 1 rfl ?_
  refine V_iload hX dX6_search_105 7 rfl ?_
  refine V_iload hX dX6_search_107 4 rfl ?_
  obtain ⟨x31, w30, hcw30, hP⟩ := bnd_e hP
  refine V_callVi (As := [rf S a1, .int x27, .int x4]) (rest := []) hX mk_X6_46 nk_X6_goes (fun l => c_X6_goes l S ha1 hcw30) tb_62 rfl ⟨rfl, rfl, Nat.le_of_ble_eq_true rfl, Nat.le_of_ble_eq_true rfl⟩ rfl rfl (Nat.le_of_ble_eq_true rfl) dX6_search_109 ?_
  refine V_if_ne (tgt := 118) hX dX6_search_112 (by decide) (fun hc32 => ?_) (fun hc32 => ?_)
  · replace hP := ite_f hc32 hP
    refine V_iload hX dX6_search_118 7 rfl ?_
    refine V_iconst (v := 1) hX dX6_search_120 (by decide) ?_
    refine V_iadd hX dX6_search_121 ?_
    refine V_iload_n hX dX6_search_122 3 rfl ?_
    refine V_icmp_ge (tgt := 148) hX dX6_search_123 (by decide) (fun hc33 => ?_) (fun hc33 => ?_)
    · replace hP := ite_t hc33 hP
      refine V_sub (lv' := [(0, rf S 62), (1, rf S a1), (2, rf S a2), (3, .int x3), (4, .int x4), (5, .int x5), (7, .int x27), (8, .int x28), (9, .int x29)]) [0, 1, 2, 3, 4, 5, 7, 8, 9] rfl ?_
      exact sK_X6_search_148 hX hR ha1 ha2 hk180 hrc  hP
    · replace hP := ite_f hc33 hP
      refine V_iload hX dX6_search_126 7 rfl ?_
      refine V_iconst (v := 1) hX dX6_search_128 (by decide) ?_
      refine V_iadd hX dX6_search_129 ?_
      refine V_iconst (v := 4) hX dX6_search_130 (by decide) ?_
      refine V_icmp_ge (tgt := 148) hX dX6_search_131 (by decide) (fun hc43 => ?_) (fun hc43 => ?_)
      · replace hP := ite_t hc43 hP
        refine V_sub (lv' := [(0, rf S 62), (1, rf S a1), (2, rf S a2), (3, .int x3), (4, .int x4), (5, .int x5), (7, .int x27), (8, .int x28), (9, .int x29)]) [0, 1, 2, 3, 4, 5, 7, 8, 9] rfl ?_
        exact sK_X6_search_148 hX hR ha1 ha2 hk180 hrc  hP
      · replace hP := ite_f hc43 hP
        obtain ⟨x44, ex44⟩ : ∃ y : Int32, y = x27 + 1 := ⟨_, rfl⟩
        replace hP := lt_r ex44 hP
        refine V_iinc (v := x44) (lv' := [(7, .int x44), (0, rf S 62), (1, rf S a1), (2, rf S a2), (3, .int x3), (4, .int x4), (5, .int x5), (6, .int x26), (8, .int x28), (9, .int x29)]) hX dX6_search_134 (j := 7) rfl (by decide) (by rw [ex44]; rfl) rfl ?_
        refine V_aload_n hX dX6_search_137 1 rfl ?_
        refine V_getF (j := 64) hX fk_X6_17 tb_62 (fun _ _ _ => rfl) dX6_search_138 ?_
        refine V_iload hX dX6_search_141 0 rfl ?_
        refine V_iconst (v := (-1)) hX dX6_search_143 (by decide) ?_
        obtain ⟨hi45, hP⟩ := gd_e hP
        refine V_iast hX tb_64 hi45 dX6_search_144 (fun w46 ew46 => ?_)
        replace hP := lt_r ew46 hP
        refine V_goto (tgt := 174) hX dX6_search_145 (by decide) ?_
        refine V_sub (lv' := [(0, rf S 62), (1, rf S a1), (2, rf S a2), (3, .int x3), (4, .int x4), (5, .int x5), (6, .int x26), (7, .int x44), (8, .int x28)]) [1, 2, 3, 4, 5, 6, 7, 0, 8] rfl ?_
        exact sK_X6_search_174 hX hR ha1 ha2 hk180 hrc  hP
  · replace hP := ite_t hc32 hP
    refine V_goto (tgt := 174) hX dX6_search_115 (by decide) ?_
    refine V_sub (lv' := [(0, rf S 62), (1, rf S a1), (2, rf S a2), (3, .int x3), (4, .int x4), (5, .int x5), (6, .int x26), (7, .int x27), (8, .int x28)]) [0, 1, 2, 3, 4, 5, 6, 7, 8] rfl ?_
    exact sK_X6_search_174 hX hR ha1 ha2 hk180 hrc  hP
def L_X6_search_26 (F : Nat) (a1 : Nat) (a2 : Nat) (x3 : Int32) (x4 : Int32) (x5 : Int32) (k180 : Wd → Int32 → Option (Int32 × Wd)) : Nat → Wd → Int32 → Int32 → Int32 → Option (Int32 × Wd)
  | 0, _, _, _, _ => none
  | n + 1, w, x11, x12, x13 => (if (1000000 : Int32) ≤ x13 then k180 w x11 else (if x12 < 0 then k180 w x11 else (if (4 : Int32) ≤ x12 then k180 w x11 else gd (inB x12 4) (gd (inB x12 4) (lt (sI w 64 x12.toNatClampNeg ((gI w 64 x12.toNatClampNeg) + 1)) (fun w20 => gd (inB x12 4) ((if (gI w20 64 x12.toNatClampNeg) < (gI w20 6 2) then bnd (P_X6_worth F w20 a1 x12 x4 x5) (fun x24 w23 => (if x11 < 0 then K_X6_search_103 F a1 a2 x3 x4 x5 k180 ((L_X6_search_26 F a1 a2 x3 x4 x5 k180 n)) w23 x11 x12 x13 x24 else (if x11 ≤ x24 then K_X6_search_174 F a1 a2 x3 x4 x5 k180 ((L_X6_search_26 F a1 a2 x3 x4 x5 k180 n)) w23 x11 x12 x13 else K_X6_search_103 F a1 a2 x3 x4 x5 k180 ((L_X6_search_26 F a1 a2 x3 x4 x5 k180 n)) w23 x11 x12 x13 x24))) else lt (x12 + (-1) : Int32) (fun x48 => K_X6_search_174 F a1 a2 x3 x4 x5 k180 ((L_X6_search_26 F a1 a2 x3 x4 x5 k180 n)) w20 x11 x48 x13)))))))))
set_option maxRecDepth 100000 in
set_option maxHeartbeats 4000000 in
theorem sL_X6_search_26 {X : Cx} {S : Sx} {r : Int32 × Wd} {F : Nat} {a1 : Nat} {a2 : Nat} {x3 : Int32} {x4 : Int32} {x5 : Int32} {k180 : Wd → Int32 → Option (Int32 × Wd)} (hX : Ok X S cX6_search RX6 10 rm_X6_search) (hR : HRt X S cX6_search .int r) (ha1 : isX9 a1 = true) (ha2 : isX1 a2 = true) (hk180 : ∀ (w : Wd) (x14 : Int32) , k180 w x14 = some r → V X S w 180 [(6, .int x14)] []) : ∀ (n : Nat) (w : Wd) (x11 : Int32) (x12 : Int32) (x13 : Int32) , L_X6_search_26 F a1 a2 x3 x4 x5 k180 n w x11 x12 x13 = some r → V X S w 26 [(0, rf S 62), (1, rf S a1), (3, .int x3), (4, .int x4), (5, .int x5), (6, .int x11), (7, .int x12), (8, .int x13), (2, rf S a2)] [] := by
  intro n
  induction n with
  | zero =>
    intro w x11 x12 x13  hP
    exact nn hP
  | succ n ih =>
    intro w x11 x12 x13  hP
    rw [L_X6_search_26] at hP
    refine V_iload hX dX6_search_26 7 rfl ?_
    refine V_ldc (v := 1000000) hX dX6_search_28 cn_X6_29 ?_
    refine V_icmp_ge (tgt := 180) hX dX6_search_30 (by decide) (fun hc15 => ?_) (fun hc15 => ?_)
    · replace hP := ite_t hc15 hP
      refine V_sub (lv' := [(6, .int x11)]) [5] rfl ?_
      exact hk180 _ _  hP
    · replace hP := ite_f hc15 hP
      refine V_iload hX dX6_search_33 6 rfl ?_
      refine V_if_lt (tgt := 180) hX dX6_search_35 (by decide) (fun hc16 => ?_) (fun hc16 => ?_)
      · replace hP := ite_t hc16 hP
        refine V_sub (lv' := [(6, .int x11)]) [5] rfl ?_
        exact hk180 _ _  hP
      · replace hP := ite_f hc16 hP
        refine V_iload hX dX6_search_38 6 rfl ?_
        refine V_iconst (v := 4) hX dX6_search_40 (by decide) ?_
        refine V_icmp_ge (tgt := 180) hX dX6_search_41 (by decide) (fun hc17 => ?_) (fun hc17 => ?_)
        · replace hP := ite_t hc17 hP
          refine V_sub (lv' := [(6, .int x11)]) [5] rfl ?_
          exact hk180 _ _  hP
        · replace hP := ite_f hc17 hP
          refine V_aload_n hX dX6_search_44 0 rfl ?_
          refine V_getF (j := 64) hX fk_X6_17 tb_62 (fun _ _ _ => rfl) dX6_search_45 ?_
          refine V_iload hX dX6_search_48 6 rfl ?_
          refine V_dup2 hX dX6_search_50 rfl rfl ?_
          obtain ⟨hi18, hP⟩ := gd_e hP
          refine V_iald hX tb_64 hi18 dX6_search_51 ?_
          refine V_iconst (v := 1) hX dX6_search_52 (by decide) ?_
          refine V_iadd hX dX6_search_53 ?_
          obtain ⟨hi19, hP⟩ := gd_e hP
          refine V_iast hX tb_64 hi19 dX6_search_54 (fun w20 ew20 => ?_)
          replace hP := lt_r ew20 hP
          refine V_aload_n hX dX6_search_55 0 rfl ?_
          refine V_getF (j := 64) hX fk_X6_17 tb_62 (fun _ _ _ => rfl) dX6_search_56 ?_
          refine V_iload hX dX6_search_59 6 rfl ?_
          obtain ⟨hi21, hP⟩ := gd_e hP
          refine V_iald hX tb_64 hi21 dX6_search_61 ?_
          refine V_aload_n hX dX6_search_62 1 rfl ?_
          refine V_getF (j := 6) hX fk_X6_30 (tb_X9 ha1) (fun _ _ _ => rfl) dX6_search_63 ?_
          refine V_getI hX fk_X6_36 tb_6 (fun _ _ _ => rfl) dX6_search_66 ?_
          refine V_icmp_lt (tgt := 78) hX dX6_search_69 (by decide) (fun hc22 => ?_) (fun hc22 => ?_)
          · replace hP := ite_t hc22 hP
            refine V_aload_n hX dX6_search_78 0 rfl ?_
            refine V_aload_n hX dX6_search_79 1 rfl ?_
            refine V_iload hX dX6_search_80 6 rfl ?_
            refine V_iload hX dX6_search_82 3 rfl ?_
            refine V_iload hX dX6_search_84 4 rfl ?_
            obtain ⟨x24, w23, hcw23, hP⟩ := bnd_e hP
            refine V_callVi (As := [rf S a1, .int x12, .int x4, .int x5]) (rest := []) hX mk_X6_42 nk_X6_worth (fun l => c_X6_worth l S ha1 hcw23) tb_62 rfl ⟨rfl, rfl, Nat.le_of_ble_eq_true rfl, Nat.le_of_ble_eq_true rfl⟩ rfl rfl (Nat.le_of_ble_eq_true rfl) dX6_search_86 ?_
            refine V_istore (lv' := [(9, .int x24), (0, rf S 62), (1, rf S a1), (3, .int x3), (4, .int x4), (5, .int x5), (6, .int x11), (7, .int x12), (8, .int x13), (2, rf S a2)]) hX dX6_search_89 (by decide) rfl ?_
            refine V_iload hX dX6_search_91 6 rfl ?_
            refine V_if_lt (tgt := 103) hX dX6_search_93 (by decide) (fun hc25 => ?_) (fun hc25 => ?_)
            · replace hP := ite_t hc25 hP
              refine V_sub (lv' := [(0, rf S 62), (1, rf S a1), (2, rf S a2), (3, .int x3), (4, .int x4), (5, .int x5), (6, .int x11), (7, .int x12), (8, .int x13), (9, .int x24)]) [1, 2, 9, 3, 4, 5, 6, 7, 8, 0] rfl ?_
              exact sK_X6_search_103 hX hR ha1 ha2 hk180 ih  hP
            · replace hP := ite_f hc25 hP
              refine V_iload hX dX6_search_96 0 rfl ?_
              refine V_iload hX dX6_search_98 6 rfl ?_
              refine V_icmp_ge (tgt := 174) hX dX6_search_100 (by decide) (fun hc47 => ?_) (fun hc47 => ?_)
              · replace hP := ite_t hc47 hP
                refine V_sub (lv' := [(0, rf S 62), (1, rf S a1), (2, rf S a2), (3, .int x3), (4, .int x4), (5, .int x5), (6, .int x11), (7, .int x12), (8, .int x13)]) [1, 2, 9, 3, 4, 5, 6, 7, 8] rfl ?_
                exact sK_X6_search_174 hX hR ha1 ha2 hk180 ih  hP
              · replace hP := ite_f hc47 hP
                refine V_sub (lv' := [(0, rf S 62), (1, rf S a1), (2, rf S a2), (3, .int x3), (4, .int x4), (5, .int x5), (6, .int x11), (7, .int x12), (8, .int x13), (9, .int x24)]) [1, 2, 9, 3, 4, 5, 6, 7, 8, 0] rfl ?_
                exact sK_X6_search_103 hX hR ha1 ha2 hk180 ih  hP
          · replace hP := ite_f hc22 hP
            obtain ⟨x48, ex48⟩ : ∃ y : Int32, y = x12 + (-1) := ⟨_, rfl⟩
            replace hP := lt_r ex48 hP
            refine V_iinc (v := x48) (lv' := [(7, .int x48), (0, rf S 62), (1, rf S a1), (3, .int x3), (4, .int x4), (5, .int x5), (6, .int x11), (8, .int x13), (2, rf S a2)]) hX dX6_search_72 (j := 6) rfl (by decide) (by rw [ex48]; rfl) rfl ?_
            refine V_goto (tgt := 174) hX dX6_search_75 (by decide) ?_
            refine V_sub (lv' := [(0, rf S 62), (1, rf S a1), (2, rf S a2), (3, .int x3), (4, .int x4), (5, .int x5), (6, .int x11), (7, .int x48), (8, .int x13)]) [1, 2, 8, 3, 4, 5, 6, 0, 7] rfl ?_
            exact sK_X6_search_174 hX hR ha1 ha2 hk180 ih  hP
def P_X6_search (F : Nat) (w : Wd) (a1 : Nat) (a2 : Nat) (x3 : Int32) (x4 : Int32) (x5 : Int32) : Option (Int32 × Wd) := gd (inB 0 5) (lt (66 + 2 * 0) (fun a7 => gd (isX1 a7) (bnv (P_X1_copy F w a7 a2) (fun w8 => gd (inB 0 4) (lt (sI w8 64 0 ((-1))) (fun w10 => L_X6_search_26 F a1 a2 x3 x4 x5 (fun w x14 => some (x14, w)) F w10 ((-1)) 0 0))))))
set_option maxRecDepth 100000 in
set_option maxHeartbeats 4000000 in
theorem s_X6_search {X : Cx} {S : Sx} {r : Int32 × Wd} {F : Nat} {w : Wd} {a1 : Nat} {a2 : Nat} {x3 : Int32} {x4 : Int32} {x5 : Int32} (ha1 : isX9 a1 = true) (ha2 : isX1 a2 = true) (hX : Ok X S cX6_search RX6 10 rm_X6_search) (hR : HRt X S cX6_search .int r) (hP : P_X6_search F w a1 a2 x3 x4 x5 = some r) : V X S w 0 [(0, rf S 62), (1, rf S a1), (2, rf S a2), (3, .int x3), (4, .int x4), (5, .int x5)] [] := by
  unfold P_X6_search at hP
  refine V_iconst (v := (-1)) hX dX6_search_0 (by decide) ?_
  refine V_istore (lv' := [(6, .int ((-1))), (0, rf S 62), (1, rf S a1), (2, rf S a2), (3, .int x3), (4, .int x4), (5, .int x5)]) hX dX6_search_1 (by decide) rfl ?_
  refine V_iconst (v := 0) hX dX6_search_3 (by decide) ?_
  refine V_istore (lv' := [(7, .int 0), (6, .int ((-1))), (0, rf S 62), (1, rf S a1), (2, rf S a2), (3, .int x3), (4, .int x4), (5, .int x5)]) hX dX6_search_4 (by decide) rfl ?_
  refine V_aload_n hX dX6_search_6 2 rfl ?_
  refine V_getF (j := 63) hX fk_X6_13 tb_62 (fun _ _ _ => rfl) dX6_search_7 ?_
  refine V_iconst (v := 0) hX dX6_search_10 (by decide) ?_
  obtain ⟨hi6, hP⟩ := gd_e hP
  refine V_aald hX tb_63 hi6 dX6_search_11 ?_
  refine V_topr (fun a7 ea7 => ?_)
  replace hP := lt_r ea7 hP
  obtain ⟨ha7, hP⟩ := gd_e hP
  refine V_aload_n hX dX6_search_12 4 rfl ?_
  obtain ⟨w8, hcw8, hP⟩ := bnv_e hP
  refine V_callVv (As := [rf S a2]) (rest := []) hX mk_X6_25 nk_X1_copy (fun l => c_X1_copy l S ha7 ha2 hcw8) (tb_X1 ha7) rfl ⟨rfl, rfl, Nat.le_of_ble_eq_true rfl, Nat.le_of_ble_eq_true rfl⟩ rfl rfl (Nat.le_of_ble_eq_true rfl) dX6_search_13 ?_
  refine V_aload_n hX dX6_search_16 2 rfl ?_
  refine V_getF (j := 64) hX fk_X6_17 tb_62 (fun _ _ _ => rfl) dX6_search_17 ?_
  refine V_iconst (v := 0) hX dX6_search_20 (by decide) ?_
  refine V_iconst (v := (-1)) hX dX6_search_21 (by decide) ?_
  obtain ⟨hi9, hP⟩ := gd_e hP
  refine V_iast hX tb_64 hi9 dX6_search_22 (fun w10 ew10 => ?_)
  replace hP := lt_r ew10 hP
  refine V_iconst (v := 0) hX dX6_search_23 (by decide) ?_
  refine V_istore (lv' := [(8, .int 0), (7, .int 0), (6, .int ((-1))), (0, rf S 62), (1, rf S a1), (2, rf S a2), (3, .int x3), (4, .int x4), (5, .int x5)]) hX dX6_search_24 (by decide) rfl ?_
  refine V_sub (lv' := [(0, rf S 62), (1, rf S a1), (3, .int x3), (4, .int x4), (5, .int x5), (6, .int ((-1))), (7, .int 0), (8, .int 0), (2, rf S a2)]) [3, 4, 6, 7, 8, 2, 1, 0, 5] rfl ?_
  have k49 : ∀ (w : Wd) (x14 : Int32) , (some (x14, w)) = some r → V X S w 180 [(6, .int x14)] [] := by
    intro w x14  hP
    refine V_iload hX dX6_search_180 0 rfl ?_
    exact hR _ _ _ _ (Option.some.inj hP) rfl dX6_search_182
  exact sL_X6_search_26 hX hR ha1 ha2 k49 F _ _ _ _  hP
theorem c_X6_search (l : Launch) (S : Sx) {r : Int32 × Wd} {F : Nat} {w : Wd} {a1 : Nat} {a2 : Nat} {x3 : Int32} {x4 : Int32} {x5 : Int32} (ha1 : isX9 a1 = true) (ha2 : isX1 a2 = true) (h : P_X6_search F w a1 a2 x3 x4 x5 = some r) : Met l yX6_search (wsg yX6_search cX6_search 10 (some .int)) rm_X6_search (PC S w [rf S 62, rf S a1, rf S a2, .int x3, .int x4, .int x5]) (QCi S r) 0 0 (Aw S) :=
  met_i (by decide) rfl (Nat.le_of_ble_eq_true rfl) ⟨rfl, rfl⟩ (fun X hX hR => s_X6_search ha1 ha2 hX hR h)
