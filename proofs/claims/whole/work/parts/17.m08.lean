-- MustNotStop.heaviest(I)I
abbrev rm_X10_heaviest : Room := { frames := 6, cells := 0, slots := 0, locals := 188 }
theorem nk_X10_heaviest : MNk yX10_heaviest RX10 1 := ⟨rfl, by decide, by decide, by decide +kernel⟩
def L_X10_heaviest_27 (F : Nat) (x1 : Int32) (k75 : Wd → Option (Int32 × Wd)) : Nat → Wd → Int32 → Option (Int32 × Wd)
  | 0, _, _ => none
  | n + 1, w, x5 => (if x5 < 1 then k75 w  else lt (sI w 17 3 x5) (fun w7 => bnv (P_X1_copy F w7 25 23) (fun w8 => bnd (P_X9_rungOn F w8 17 25 x1) (fun x10 w9 => (if x10 = x1 then some (x5, w9) else lt (x5 + (-1) : Int32) (fun x12 => L_X10_heaviest_27 F x1 k75 n w9 x12))))))
set_option maxRecDepth 100000 in
set_option maxHeartbeats 4000000 in
theorem sL_X10_heaviest_27 {X : Cx} {S : Sx} {r : Int32 × Wd} {F : Nat} {x1 : Int32} {k75 : Wd → Option (Int32 × Wd)} (hX : Ok X S cX10_heaviest RX10 3 rm_X10_heaviest) (hR : HRt X S cX10_heaviest .int r)  (hk75 : ∀ (w : Wd), k75 w = some r → V X S w 75 [] []) : ∀ (n : Nat) (w : Wd) (x5 : Int32) , L_X10_heaviest_27 F x1 k75 n w x5 = some r → V X S w 27 [(0, rf S 0), (1, .int x1), (2, .int x5)] [] := by
  intro n
  induction n with
  | zero =>
    intro w x5  hP
    exact nn hP
  | succ n ih =>
    intro w x5  hP
    rw [L_X10_heaviest_27] at hP
    refine V_iload_n hX dX10_heaviest_27 2 rfl ?_
    refine V_iconst (v := 1) hX dX10_heaviest_28 (by decide) ?_
    refine V_icmp_lt (tgt := 75) hX dX10_heaviest_29 (by decide) (fun hc6 => ?_) (fun hc6 => ?_)
    · replace hP := ite_t hc6 hP
      refine V_sub (lv' := []) [] rfl ?_
      exact hk75 _   hP
    · replace hP := ite_f hc6 hP
      refine V_aload_n hX dX10_heaviest_32 0 rfl ?_
      refine V_getF (j := 17) hX fk_X10_49 tb_0 (fun _ _ _ => rfl) dX10_heaviest_33 ?_
      refine V_iload_n hX dX10_heaviest_36 2 rfl ?_
      refine V_putI hX fw_X10_151 tb_17 (fun _ _ _ => ⟨Nat.le_of_ble_eq_true rfl, rfl⟩) dX10_heaviest_37 (fun w7 ew7 => ?_)
      replace hP := lt_r ew7 hP
      refine V_aload_n hX dX10_heaviest_40 0 rfl ?_
      refine V_getF (j := 25) hX fk_X10_62 tb_0 (fun _ _ _ => rfl) dX10_heaviest_41 ?_
      refine V_aload_n hX dX10_heaviest_44 0 rfl ?_
      refine V_getF (j := 23) hX fk_X10_58 tb_0 (fun _ _ _ => rfl) dX10_heaviest_45 ?_
      obtain ⟨w8, hcw8, hP⟩ := bnv_e hP
      refine V_callVv (As := [rf S 23]) (rest := []) hX mk_X10_180 nk_X1_copy (fun l => c_X1_copy l S (by decide) (by decide) hcw8) tb_25 rfl ⟨rfl, rfl, Nat.le_of_ble_eq_true rfl, Nat.le_of_ble_eq_true rfl⟩ rfl rfl (Nat.le_of_ble_eq_true rfl) dX10_heaviest_48 ?_
      refine V_aload_n hX dX10_heaviest_51 0 rfl ?_
      refine V_getF (j := 17) hX fk_X10_49 tb_0 (fun _ _ _ => rfl) dX10_heaviest_52 ?_
      refine V_aload_n hX dX10_heaviest_55 0 rfl ?_
      refine V_getF (j := 25) hX fk_X10_62 tb_0 (fun _ _ _ => rfl) dX10_heaviest_56 ?_
      refine V_iload_n hX dX10_heaviest_59 1 rfl ?_
      obtain ⟨x10, w9, hcw9, hP⟩ := bnd_e hP
      refine V_callVi (As := [rf S 25, .int x1]) (rest := []) hX mk_X10_257 nk_X9_rungOn (fun l => c_X9_rungOn l S (by decide) (by decide) hcw9) tb_17 rfl ⟨rfl, rfl, Nat.le_of_ble_eq_true rfl, Nat.le_of_ble_eq_true rfl⟩ rfl rfl (Nat.le_of_ble_eq_true rfl) dX10_heaviest_60 ?_
      refine V_iload_n hX dX10_heaviest_63 1 rfl ?_
      refine V_icmp_ne (tgt := 69) hX dX10_heaviest_64 (by decide) (fun hc11 => ?_) (fun hc11 => ?_)
      · replace hP := ite_f hc11 hP
        obtain ⟨x12, ex12⟩ : ∃ y : Int32, y = x5 + (-1) := ⟨_, rfl⟩
        replace hP := lt_r ex12 hP
        refine V_iinc (v := x12) (lv' := [(2, .int x12), (0, rf S 0), (1, .int x1)]) hX dX10_heaviest_69 (j := 2) rfl (by decide) (by rw [ex12]; rfl) rfl ?_
        refine V_goto (tgt := 27) hX dX10_heaviest_72 (by decide) ?_
        refine V_sub (lv' := [(0, rf S 0), (1, .int x1), (2, .int x12)]) [1, 2, 0] rfl ?_
        exact ih _ _  hP
      · replace hP := ite_t hc11 hP
        refine V_iload_n hX dX10_heaviest_67 2 rfl ?_
        exact hR _ _ _ _ (Option.some.inj hP) rfl dX10_heaviest_68
def P_X10_heaviest (F : Nat) (w : Wd) (x1 : Int32) : Option (Int32 × Wd) := (if x1 < 1 then some ((-1), w) else (if x1 ≤ 120 then bnv (P_X9_setAs F w 17 5) (fun w4 => L_X10_heaviest_27 F x1 (fun w  => some ((-2), w)) F w4 30) else some ((-1), w)))
set_option maxRecDepth 100000 in
set_option maxHeartbeats 4000000 in
theorem s_X10_heaviest {X : Cx} {S : Sx} {r : Int32 × Wd} {F : Nat} {w : Wd} {x1 : Int32}  (hX : Ok X S cX10_heaviest RX10 3 rm_X10_heaviest) (hR : HRt X S cX10_heaviest .int r) (hP : P_X10_heaviest F w x1 = some r) : V X S w 0 [(0, rf S 0), (1, .int x1)] [] := by
  unfold P_X10_heaviest at hP
  refine V_iload_n hX dX10_heaviest_0 1 rfl ?_
  refine V_iconst (v := 1) hX dX10_heaviest_1 (by decide) ?_
  refine V_icmp_lt (tgt := 11) hX dX10_heaviest_2 (by decide) (fun hc2 => ?_) (fun hc2 => ?_)
  · replace hP := ite_t hc2 hP
    refine V_iconst (v := (-1)) hX dX10_heaviest_11 (by decide) ?_
    exact hR _ _ _ _ (Option.some.inj hP) rfl dX10_heaviest_12
  · replace hP := ite_f hc2 hP
    refine V_iload_n hX dX10_heaviest_5 1 rfl ?_
    refine V_bipush (v := 120) hX dX10_heaviest_6 (by decide) ?_
    refine V_icmp_le (tgt := 13) hX dX10_heaviest_8 (by decide) (fun hc3 => ?_) (fun hc3 => ?_)
    · replace hP := ite_t hc3 hP
      refine V_aload_n hX dX10_heaviest_13 0 rfl ?_
      refine V_getF (j := 17) hX fk_X10_49 tb_0 (fun _ _ _ => rfl) dX10_heaviest_14 ?_
      refine V_aload_n hX dX10_heaviest_17 0 rfl ?_
      refine V_getF (j := 5) hX fk_X10_34 tb_0 (fun _ _ _ => rfl) dX10_heaviest_18 ?_
      obtain ⟨w4, hcw4, hP⟩ := bnv_e hP
      refine V_callVv (As := [rf S 5]) (rest := []) hX mk_X10_302 nk_X9_setAs (fun l => c_X9_setAs l S (by decide) (by decide) hcw4) tb_17 rfl ⟨rfl, rfl, Nat.le_of_ble_eq_true rfl, Nat.le_of_ble_eq_true rfl⟩ rfl rfl (Nat.le_of_ble_eq_true rfl) dX10_heaviest_21 ?_
      refine V_bipush (v := 30) hX dX10_heaviest_24 (by decide) ?_
      refine V_istore_n (lv' := [(2, .int 30), (0, rf S 0), (1, .int x1)]) hX dX10_heaviest_26 (by decide) rfl ?_
      refine V_sub (lv' := [(0, rf S 0), (1, .int x1), (2, .int 30)]) [1, 2, 0] rfl ?_
      have k13 : ∀ (w : Wd)  , (some ((-2), w)) = some r → V X S w 75 [] [] := by
        intro w   hP
        refine V_bipush (v := (-2)) hX dX10_heaviest_75 (by decide) ?_
        exact hR _ _ _ _ (Option.some.inj hP) rfl dX10_heaviest_77
      exact sL_X10_heaviest_27 hX hR  k13 F _ _  hP
    · replace hP := ite_f hc3 hP
      refine V_iconst (v := (-1)) hX dX10_heaviest_11 (by decide) ?_
      exact hR _ _ _ _ (Option.some.inj hP) rfl dX10_heaviest_12
theorem c_X10_heaviest (l : Launch) (S : Sx) {r : Int32 × Wd} {F : Nat} {w : Wd} {x1 : Int32}  (h : P_X10_heaviest F w x1 = some r) : Met l yX10_heaviest (wsg yX10_heaviest cX10_heaviest 3 (some .int)) rm_X10_heaviest (PC S w [rf S 0, .int x1]) (QCi S r) 0 0 (Aw S) :=
  met_i (by decide) rfl (Nat.le_of_ble_eq_true rfl) ⟨rfl, rfl⟩ (fun X hX hR => s_X10_heaviest  hX hR h)

-- MustNotStop.noted(III)I
abbrev rm_X10_noted : Room := { frames := 2, cells := 0, slots := 0, locals := 87 }
theorem nk_X10_noted : MNk yX10_noted RX10 3 := ⟨rfl, by decide, by decide, by decide +kernel⟩
def P_X10_noted (F : Nat) (w : Wd) (x1 : Int32) (x2 : Int32) (x3 : Int32) : Option (Int32 × Wd) := lt (if x1 < 0 then 0 else if (6 : Int32) ≤ x1 then 0 else if x2 < ((-999)) then 0 else if (9999 : Int32) < x2 then 0 else if x3 < 0 then 0 else if (1 : Int32) < x3 then 0 else 1 : Int32) (fun x10 => (if x10 = 0 then some ((-1), w) else bnd (P_X3_note F w x1 x2 x3) (fun x13 w12 => some (x13, w12))))
set_option maxRecDepth 100000 in
set_option maxHeartbeats 4000000 in
theorem s_X10_noted {X : Cx} {S : Sx} {r : Int32 × Wd} {F : Nat} {w : Wd} {x1 : Int32} {x2 : Int32} {x3 : Int32}  (hX : Ok X S cX10_noted RX10 5 rm_X10_noted) (hR : HRt X S cX10_noted .int r) (hP : P_X10_noted F w x1 x2 x3 = some r) : V X S w 0 [(0, rf S 0), (1, .int x1), (2, .int x2), (3, .int x3)] [] := by
  unfold P_X10_noted at hP
  refine V_iload_n hX dX10_noted_0 1 rfl ?_
  have k14 : V X S w 38 [(0, rf S 0), (1, .int x1), (2, .int x2), (3, .int x3)] [.int (if x1 < 0 then 0 else if (6 : Int32) ≤ x1 then 0 else if x2 < ((-999)) then 0 else if (9999 : Int32) < x2 then 0 else if x3 < 0 then 0 else if (1 : Int32) < x3 then 0 else 1)] := by
    refine V_topi (fun x10 ex10 => ?_)
    replace hP := lt_r ex10 hP
    refine V_istore (lv' := [(4, .int x10), (0, rf S 0), (1, .int x1), (2, .int x2), (3, .int x3)]) hX dX10_noted_38 (by decide) rfl ?_
    refine V_iload hX dX10_noted_40 0 rfl ?_
    refine V_if_eq (tgt := 58) hX dX10_noted_42 (by decide) (fun hc11 => ?_) (fun hc11 => ?_)
    · replace hP := ite_t hc11 hP
      refine V_iconst (v := (-1)) hX dX10_noted_58 (by decide) ?_
      exact hR _ _ _ _ (Option.some.inj hP) rfl dX10_noted_59
    · replace hP := ite_f hc11 hP
      refine V_aload_n hX dX10_noted_45 1 rfl ?_
      refine V_getF (j := 76) hX fk_X10_93 tb_0 (fun _ _ _ => rfl) dX10_noted_46 ?_
      refine V_iload_n hX dX10_noted_49 2 rfl ?_
      refine V_iload_n hX dX10_noted_50 3 rfl ?_
      refine V_iload_n hX dX10_noted_51 4 rfl ?_
      obtain ⟨x13, w12, hcw12, hP⟩ := bnd_e hP
      refine V_callVi (As := [.int x1, .int x2, .int x3]) (rest := []) hX mk_X10_309 nk_X3_note (fun l => c_X3_note l S  hcw12) tb_76 rfl ⟨rfl, rfl, Nat.le_of_ble_eq_true rfl, Nat.le_of_ble_eq_true rfl⟩ rfl rfl (Nat.le_of_ble_eq_true rfl) dX10_noted_52 ?_
      refine V_goto (tgt := 59) hX dX10_noted_55 (by decide) ?_
      exact hR _ _ _ _ (Option.some.inj hP) rfl dX10_noted_59
  refine V_if_lt (tgt := 37) hX dX10_noted_1 (by decide) (fun hc9 => ?_) (fun hc9 => ?_)
  · refine V_iconst (v := 0) hX dX10_noted_37 (by decide) ?_
    refine V_selT (c := x1 < 0) (b := if (6 : Int32) ≤ x1 then 0 else if x2 < ((-999)) then 0 else if (9999 : Int32) < x2 then 0 else if x3 < 0 then 0 else if (1 : Int32) < x3 then 0 else 1) hc9 ?_
    exact k14
  · refine V_iload_n hX dX10_noted_4 1 rfl ?_
    refine V_bipush (v := 6) hX dX10_noted_5 (by decide) ?_
    refine V_icmp_ge (tgt := 37) hX dX10_noted_7 (by decide) (fun hc8 => ?_) (fun hc8 => ?_)
    · refine V_iconst (v := 0) hX dX10_noted_37 (by decide) ?_
      refine V_selT (c := (6 : Int32) ≤ x1) (b := if x2 < ((-999)) then 0 else if (9999 : Int32) < x2 then 0 else if x3 < 0 then 0 else if (1 : Int32) < x3 then 0 else 1) hc8 ?_
      refine V_selF (c := x1 < 0) (a := 0) hc9 ?_
      exact k14
    · refine V_iload_n hX dX10_noted_10 2 rfl ?_
      refine V_sipush (v := (-999)) hX dX10_noted_11 (by decide) ?_
      refine V_icmp_lt (tgt := 37) hX dX10_noted_14 (by decide) (fun hc7 => ?_) (fun hc7 => ?_)
      · refine V_iconst (v := 0) hX dX10_noted_37 (by decide) ?_
        refine V_selT (c := x2 < ((-999))) (b := if (9999 : Int32) < x2 then 0 else if x3 < 0 then 0 else if (1 : Int32) < x3 then 0 else 1) hc7 ?_
        refine V_selF (c := (6 : Int32) ≤ x1) (a := 0) hc8 ?_
        refine V_selF (c := x1 < 0) (a := 0) hc9 ?_
        exact k14
      · refine V_iload_n hX dX10_noted_17 2 rfl ?_
        refine V_sipush (v := 9999) hX dX10_noted_18 (by decide) ?_
        refine V_icmp_gt (tgt := 37) hX dX10_noted_21 (by decide) (fun hc6 => ?_) (fun hc6 => ?_)
        · refine V_iconst (v := 0) hX dX10_noted_37 (by decide) ?_
          refine V_selT (c := (9999 : Int32) < x2) (b := if x3 < 0 then 0 else if (1 : Int32) < x3 then 0 else 1) hc6 ?_
          refine V_selF (c := x2 < ((-999))) (a := 0) hc7 ?_
          refine V_selF (c := (6 : Int32) ≤ x1) (a := 0) hc8 ?_
          refine V_selF (c := x1 < 0) (a := 0) hc9 ?_
          exact k14
        · refine V_iload_n hX dX10_noted_24 3 rfl ?_
          refine V_if_lt (tgt := 37) hX dX10_noted_25 (by decide) (fun hc5 => ?_) (fun hc5 => ?_)
          · refine V_iconst (v := 0) hX dX10_noted_37 (by decide) ?_
            refine V_selT (c := x3 < 0) (b := if (1 : Int32) < x3 then 0 else 1) hc5 ?_
            refine V_selF (c := (9999 : Int32) < x2) (a := 0) hc6 ?_
            refine V_selF (c := x2 < ((-999))) (a := 0) hc7 ?_
            refine V_selF (c := (6 : Int32) ≤ x1) (a := 0) hc8 ?_
            refine V_selF (c := x1 < 0) (a := 0) hc9 ?_
            exact k14
          · refine V_iload_n hX dX10_noted_28 3 rfl ?_
            refine V_iconst (v := 1) hX dX10_noted_29 (by decide) ?_
            refine V_icmp_gt (tgt := 37) hX dX10_noted_30 (by decide) (fun hc4 => ?_) (fun hc4 => ?_)
            · refine V_iconst (v := 0) hX dX10_noted_37 (by decide) ?_
              refine V_selT (c := (1 : Int32) < x3) (b := 1) hc4 ?_
              refine V_selF (c := x3 < 0) (a := 0) hc5 ?_
              refine V_selF (c := (9999 : Int32) < x2) (a := 0) hc6 ?_
              refine V_selF (c := x2 < ((-999))) (a := 0) hc7 ?_
              refine V_selF (c := (6 : Int32) ≤ x1) (a := 0) hc8 ?_
              refine V_selF (c := x1 < 0) (a := 0) hc9 ?_
              exact k14
            · refine V_iconst (v := 1) hX dX10_noted_33 (by decide) ?_
              refine V_goto (tgt := 38) hX dX10_noted_34 (by decide) ?_
              refine V_selF (c := (1 : Int32) < x3) (a := 0) hc4 ?_
              refine V_selF (c := x3 < 0) (a := 0) hc5 ?_
              refine V_selF (c := (9999 : Int32) < x2) (a := 0) hc6 ?_
              refine V_selF (c := x2 < ((-999))) (a := 0) hc7 ?_
              refine V_selF (c := (6 : Int32) ≤ x1) (a := 0) hc8 ?_
              refine V_selF (c := x1 < 0) (a := 0) hc9 ?_
              exact k14
theorem c_X10_noted (l : Launch) (S : Sx) {r : Int32 × Wd} {F : Nat} {w : Wd} {x1 : Int32} {x2 : Int32} {x3 : Int32}  (h : P_X10_noted F w x1 x2 x3 = some r) : Met l yX10_noted (wsg yX10_noted cX10_noted 5 (some .int)) rm_X10_noted (PC S w [rf S 0, .int x1, .int x2, .int x3]) (QCi S r) 0 0 (Aw S) :=
  met_i (by decide) rfl (Nat.le_of_ble_eq_true rfl) ⟨rfl, rfl⟩ (fun X hX hR => s_X10_noted  hX hR h)

-- MustNotStop.forget()I
abbrev rm_X10_forget : Room := { frames := 1, cells := 0, slots := 0, locals := 64 }
theorem nk_X10_forget : MNk yX10_forget RX10 0 := ⟨rfl, by decide, by decide, by decide +kernel⟩
def P_X10_forget (F : Nat) (w : Wd)  : Option (Int32 × Wd) := lt (gI w 76 3 : Int32) (fun x1 => lt (sI w 76 3 0) (fun w2 => some (x1, w2)))
set_option maxRecDepth 100000 in
set_option maxHeartbeats 4000000 in
theorem s_X10_forget {X : Cx} {S : Sx} {r : Int32 × Wd} {F : Nat} {w : Wd}   (hX : Ok X S cX10_forget RX10 2 rm_X10_forget) (hR : HRt X S cX10_forget .int r) (hP : P_X10_forget F w  = some r) : V X S w 0 [(0, rf S 0)] [] := by
  unfold P_X10_forget at hP
  refine V_aload_n hX dX10_forget_0 0 rfl ?_
  refine V_getF (j := 76) hX fk_X10_93 tb_0 (fun _ _ _ => rfl) dX10_forget_1 ?_
  refine V_getI hX fk_X10_312 tb_76 (fun _ _ _ => rfl) dX10_forget_4 ?_
  refine V_topi (fun x1 ex1 => ?_)
  replace hP := lt_r ex1 hP
  refine V_istore_n (lv' := [(1, .int x1), (0, rf S 0)]) hX dX10_forget_7 (by decide) rfl ?_
  refine V_aload_n hX dX10_forget_8 1 rfl ?_
  refine V_getF (j := 76) hX fk_X10_93 tb_0 (fun _ _ _ => rfl) dX10_forget_9 ?_
  refine V_iconst (v := 0) hX dX10_forget_12 (by decide) ?_
  refine V_putI hX fw_X10_312 tb_76 (fun _ _ _ => ⟨Nat.le_of_ble_eq_true rfl, rfl⟩) dX10_forget_13 (fun w2 ew2 => ?_)
  replace hP := lt_r ew2 hP
  refine V_iload_n hX dX10_forget_16 0 rfl ?_
  exact hR _ _ _ _ (Option.some.inj hP) rfl dX10_forget_17
theorem c_X10_forget (l : Launch) (S : Sx) {r : Int32 × Wd} {F : Nat} {w : Wd}   (h : P_X10_forget F w  = some r) : Met l yX10_forget (wsg yX10_forget cX10_forget 2 (some .int)) rm_X10_forget (PC S w [rf S 0]) (QCi S r) 0 0 (Aw S) :=
  met_i (by decide) rfl (Nat.le_of_ble_eq_true rfl) ⟨rfl, rfl⟩ (fun X hX hR => s_X10_forget  hX hR h)

-- MustNotStop.countRows()V
abbrev rm_X10_countRows : Room := { frames := 5, cells := 0, slots := 0, locals := 169 }
theorem nk_X10_countRows : MNk yX10_countRows RX10 0 := ⟨rfl, by decide, by decide, by decide +kernel⟩
def P_X10_countRows (F : Nat) (w : Wd)  : Option (Wd) := bnv (P_X1_copy F w 25 23) (fun w1 => bnv (P_X1_rest F w1 25) (fun w2 => bnv (P_X3_work F w2 5 25) (fun w3 => some w3)))
set_option maxRecDepth 100000 in
set_option maxHeartbeats 4000000 in
theorem s_X10_countRows {X : Cx} {S : Sx} {r : Wd} {F : Nat} {w : Wd}   (hX : Ok X S cX10_countRows RX10 1 rm_X10_countRows) (hR : HRv X S cX10_countRows r) (hP : P_X10_countRows F w  = some r) : V X S w 0 [(0, rf S 0)] [] := by
  unfold P_X10_countRows at hP
  refine V_aload_n hX dX10_countRows_0 0 rfl ?_
  refine V_getF (j := 25) hX fk_X10_62 tb_0 (fun _ _ _ => rfl) dX10_countRows_1 ?_
  refine V_aload_n hX dX10_countRows_4 0 rfl ?_
  refine V_getF (j := 23) hX fk_X10_58 tb_0 (fun _ _ _ => rfl) dX10_countRows_5 ?_
  obtain ⟨w1, hcw1, hP⟩ := bnv_e hP
  refine V_callVv (As := [rf S 23]) (rest := []) hX mk_X10_180 nk_X1_copy (fun l => c_X1_copy l S (by decide) (by decide) hcw1) tb_25 rfl ⟨rfl, rfl, Nat.le_of_ble_eq_true rfl, Nat.le_of_ble_eq_true rfl⟩ rfl rfl (Nat.le_of_ble_eq_true rfl) dX10_countRows_8 ?_
  refine V_aload_n hX dX10_countRows_11 0 rfl ?_
  refine V_getF (j := 25) hX fk_X10_62 tb_0 (fun _ _ _ => rfl) dX10_countRows_12 ?_
  obtain ⟨w2, hcw2, hP⟩ := bnv_e hP
  refine V_callVv (As := []) (rest := []) hX mk_X10_324 nk_X1_rest (fun l => c_X1_rest l S (by decide) hcw2) tb_25 rfl ⟨rfl, rfl, Nat.le_of_ble_eq_true rfl, Nat.le_of_ble_eq_true rfl⟩ rfl rfl (Nat.le_of_ble_eq_true rfl) dX10_countRows_15 ?_
  refine V_aload_n hX dX10_countRows_18 0 rfl ?_
  refine V_getF (j := 76) hX fk_X10_93 tb_0 (fun _ _ _ => rfl) dX10_countRows_19 ?_
  refine V_aload_n hX dX10_countRows_22 0 rfl ?_
  refine V_getF (j := 5) hX fk_X10_34 tb_0 (fun _ _ _ => rfl) dX10_countRows_23 ?_
  refine V_aload_n hX dX10_countRows_26 0 rfl ?_
  refine V_getF (j := 25) hX fk_X10_62 tb_0 (fun _ _ _ => rfl) dX10_countRows_27 ?_
  obtain ⟨w3, hcw3, hP⟩ := bnv_e hP
  refine V_callVv (As := [rf S 5, rf S 25]) (rest := []) hX mk_X10_327 nk_X3_work (fun l => c_X3_work l S (by decide) (by decide) hcw3) tb_76 rfl ⟨rfl, rfl, Nat.le_of_ble_eq_true rfl, Nat.le_of_ble_eq_true rfl⟩ rfl rfl (Nat.le_of_ble_eq_true rfl) dX10_countRows_30 ?_
  exact hR _ _ _ (Option.some.inj hP) dX10_countRows_33
theorem c_X10_countRows (l : Launch) (S : Sx) {r : Wd} {F : Nat} {w : Wd}   (h : P_X10_countRows F w  = some r) : Met l yX10_countRows (wsg yX10_countRows cX10_countRows 1 none) rm_X10_countRows (PC S w [rf S 0]) (QCv S r) 0 0 (Aw S) :=
  met_v (by decide) rfl (Nat.le_of_ble_eq_true rfl) ⟨rfl, rfl⟩ (fun X hX hR => s_X10_countRows  hX hR h)

-- MustNotStop.rows()I
abbrev rm_X10_rows : Room := { frames := 6, cells := 0, slots := 0, locals := 189 }
theorem nk_X10_rows : MNk yX10_rows RX10 0 := ⟨rfl, by decide, by decide, by decide +kernel⟩
def K_X10_rows_56 (F : Nat)   (w : Wd)  : Option (Int32 × Wd) := bnd (P_X3_total F w ) (fun x7 w6 => some (x7, w6))
set_option maxRecDepth 100000 in
set_option maxHeartbeats 4000000 in
theorem sK_X10_rows_56 {X : Cx} {S : Sx} {r : Int32 × Wd} {F : Nat}   {w : Wd}  (hX : Ok X S cX10_rows RX10 3 rm_X10_rows) (hR : HRt X S cX10_rows .int r)    (hP : K_X10_rows_56 F   w  = some r) : V X S w 56 [(0, rf S 0)] [] := by
  unfold K_X10_rows_56 at hP
  refine V_aload_n hX dX10_rows_56 0 rfl ?_
  refine V_getF (j := 76) hX fk_X10_93 tb_0 (fun _ _ _ => rfl) dX10_rows_57 ?_
  obtain ⟨x7, w6, hcw6, hP⟩ := bnd_e hP
  refine V_callVi (As := []) (rest := []) hX mk_X10_318 nk_X3_total (fun l => c_X3_total l S  hcw6) tb_76 rfl ⟨rfl, rfl, Nat.le_of_ble_eq_true rfl, Nat.le_of_ble_eq_true rfl⟩ rfl rfl (Nat.le_of_ble_eq_true rfl) dX10_rows_60 ?_
  exact hR _ _ _ _ (Option.some.inj hP) rfl dX10_rows_63
def L_X10_rows_25 (F : Nat)  (k56 : Wd → Option (Int32 × Wd)) : Nat → Wd → Int32 → Int32 → Option (Int32 × Wd)
  | 0, _, _, _ => none
  | n + 1, w, x8, x9 => (if (6 : Int32) ≤ x9 then k56 w  else bnd (P_X3_leastBehind F w x9 x8) (fun x12 w11 => bnv (P_X7_add F w11 (Int32.toInt64 x12)) (fun w13 => lt (x9 + 1 : Int32) (fun x14 => L_X10_rows_25 F  k56 n w13 x12 x14))))
set_option maxRecDepth 100000 in
set_option maxHeartbeats 4000000 in
theorem sL_X10_rows_25 {X : Cx} {S : Sx} {r : Int32 × Wd} {F : Nat}  {k56 : Wd → Option (Int32 × Wd)} (hX : Ok X S cX10_rows RX10 3 rm_X10_rows) (hR : HRt X S cX10_rows .int r)  (hk56 : ∀ (w : Wd), k56 w = some r → V X S w 56 [(0, rf S 0)] []) : ∀ (n : Nat) (w : Wd) (x8 : Int32) (x9 : Int32) , L_X10_rows_25 F  k56 n w x8 x9 = some r → V X S w 25 [(0, rf S 0), (1, .int x8), (2, .int x9)] [] := by
  intro n
  induction n with
  | zero =>
    intro w x8 x9  hP
    exact nn hP
  | succ n ih =>
    intro w x8 x9  hP
    rw [L_X10_rows_25] at hP
    refine V_iload_n hX dX10_rows_25 2 rfl ?_
    refine V_bipush (v := 6) hX dX10_rows_26 (by decide) ?_
    refine V_icmp_ge (tgt := 56) hX dX10_rows_28 (by decide) (fun hc10 => ?_) (fun hc10 => ?_)
    · replace hP := ite_t hc10 hP
      refine V_sub (lv' := [(0, rf S 0)]) [0] rfl ?_
      exact hk56 _   hP
    · replace hP := ite_f hc10 hP
      refine V_aload_n hX dX10_rows_31 0 rfl ?_
      refine V_getF (j := 76) hX fk_X10_93 tb_0 (fun _ _ _ => rfl) dX10_rows_32 ?_
      refine V_iload_n hX dX10_rows_35 2 rfl ?_
      refine V_iload_n hX dX10_rows_36 1 rfl ?_
      obtain ⟨x12, w11, hcw11, hP⟩ := bnd_e hP
      refine V_callVi (As := [.int x9, .int x8]) (rest := []) hX mk_X10_321 nk_X3_leastBehind (fun l => c_X3_leastBehind l S  hcw11) tb_76 rfl ⟨rfl, rfl, Nat.le_of_ble_eq_true rfl, Nat.le_of_ble_eq_true rfl⟩ rfl rfl (Nat.le_of_ble_eq_true rfl) dX10_rows_37 ?_
      refine V_istore_n (lv' := [(1, .int x12), (0, rf S 0), (2, .int x9)]) hX dX10_rows_40 (by decide) rfl ?_
      refine V_aload_n hX dX10_rows_41 1 rfl ?_
      refine V_getF (j := 3) hX fk_X10_19 tb_0 (fun _ _ _ => rfl) dX10_rows_42 ?_
      refine V_iload_n hX dX10_rows_45 0 rfl ?_
      refine V_i2l hX dX10_rows_46 ?_
      obtain ⟨w13, hcw13, hP⟩ := bnv_e hP
      refine V_callVv (As := [.long (Int32.toInt64 x12)]) (rest := []) hX mk_X10_293 nk_X7_add (fun l => c_X7_add l S  hcw13) tb_3 rfl ⟨rfl, rfl, Nat.le_of_ble_eq_true rfl, Nat.le_of_ble_eq_true rfl⟩ rfl rfl (Nat.le_of_ble_eq_true rfl) dX10_rows_47 ?_
      obtain ⟨x14, ex14⟩ : ∃ y : Int32, y = x9 + 1 := ⟨_, rfl⟩
      replace hP := lt_r ex14 hP
      refine V_iinc (v := x14) (lv' := [(2, .int x14), (1, .int x12), (0, rf S 0)]) hX dX10_rows_50 (j := 2) rfl (by decide) (by rw [ex14]; rfl) rfl ?_
      refine V_goto (tgt := 25) hX dX10_rows_53 (by decide) ?_
      refine V_sub (lv' := [(0, rf S 0), (1, .int x12), (2, .int x14)]) [2, 1, 0] rfl ?_
      exact ih _ _ _  hP
def P_X10_rows (F : Nat) (w : Wd)  : Option (Int32 × Wd) := bnv (P_X10_countRows F w ) (fun w1 => bnv (P_X7_clear F w1 ) (fun w2 => bnd (P_X3_total F w2 ) (fun x4 w3 => (if x4 ≤ 0 then K_X10_rows_56 F   w3  else L_X10_rows_25 F  (fun w  => K_X10_rows_56 F   w ) F w3 ((-1)) 0))))
set_option maxRecDepth 100000 in
set_option maxHeartbeats 4000000 in
theorem s_X10_rows {X : Cx} {S : Sx} {r : Int32 × Wd} {F : Nat} {w : Wd}   (hX : Ok X S cX10_rows RX10 3 rm_X10_rows) (hR : HRt X S cX10_rows .int r) (hP : P_X10_rows F w  = some r) : V X S w 0 [(0, rf S 0)] [] := by
  unfold P_X10_rows at hP
  refine V_aload_n hX dX10_rows_0 0 rfl ?_
  obtain ⟨w1, hcw1, hP⟩ := bnv_e hP
  refine V_callVv (As := []) (rest := []) hX mk_X10_315 nk_X10_countRows (fun l => c_X10_countRows l S  hcw1) tb_0 rfl ⟨rfl, rfl, Nat.le_of_ble_eq_true rfl, Nat.le_of_ble_eq_true rfl⟩ rfl rfl (Nat.le_of_ble_eq_true rfl) dX10_rows_1 ?_
  refine V_aload_n hX dX10_rows_4 0 rfl ?_
  refine V_getF (j := 3) hX fk_X10_19 tb_0 (fun _ _ _ => rfl) dX10_rows_5 ?_
  obtain ⟨w2, hcw2, hP⟩ := bnv_e hP
  refine V_callVv (As := []) (rest := []) hX mk_X10_289 nk_X7_clear (fun l => c_X7_clear l S  hcw2) tb_3 rfl ⟨rfl, rfl, Nat.le_of_ble_eq_true rfl, Nat.le_of_ble_eq_true rfl⟩ rfl rfl (Nat.le_of_ble_eq_true rfl) dX10_rows_8 ?_
  refine V_aload_n hX dX10_rows_11 0 rfl ?_
  refine V_getF (j := 76) hX fk_X10_93 tb_0 (fun _ _ _ => rfl) dX10_rows_12 ?_
  obtain ⟨x4, w3, hcw3, hP⟩ := bnd_e hP
  refine V_callVi (As := []) (rest := []) hX mk_X10_318 nk_X3_total (fun l => c_X3_total l S  hcw3) tb_76 rfl ⟨rfl, rfl, Nat.le_of_ble_eq_true rfl, Nat.le_of_ble_eq_true rfl⟩ rfl rfl (Nat.le_of_ble_eq_true rfl) dX10_rows_15 ?_
  refine V_if_le (tgt := 56) hX dX10_rows_18 (by decide) (fun hc5 => ?_) (fun hc5 => ?_)
  · replace hP := ite_t hc5 hP
    exact sK_X10_rows_56 hX hR    hP
  · replace hP := ite_f hc5 hP
    refine V_iconst (v := (-1)) hX dX10_rows_21 (by decide) ?_
    refine V_istore_n (lv' := [(1, .int ((-1))), (0, rf S 0)]) hX dX10_rows_22 (by decide) rfl ?_
    refine V_iconst (v := 0) hX dX10_rows_23 (by decide) ?_
    refine V_istore_n (lv' := [(2, .int 0), (1, .int ((-1))), (0, rf S 0)]) hX dX10_rows_24 (by decide) rfl ?_
    refine V_sub (lv' := [(0, rf S 0), (1, .int ((-1))), (2, .int 0)]) [2, 1, 0] rfl ?_
    have k15 : ∀ (w : Wd)  , (K_X10_rows_56 F   w ) = some r → V X S w 56 [(0, rf S 0)] [] := by
      intro w   hP
      exact sK_X10_rows_56 hX hR    hP
    exact sL_X10_rows_25 hX hR  k15 F _ _ _  hP
theorem c_X10_rows (l : Launch) (S : Sx) {r : Int32 × Wd} {F : Nat} {w : Wd}   (h : P_X10_rows F w  = some r) : Met l yX10_rows (wsg yX10_rows cX10_rows 3 (some .int)) rm_X10_rows (PC S w [rf S 0]) (QCi S r) 0 0 (Aw S) :=
  met_i (by decide) rfl (Nat.le_of_ble_eq_true rfl) ⟨rfl, rfl⟩ (fun X hX hR => s_X10_rows  hX hR h)

-- MustNotStop.rang(I)I
abbrev rm_X10_rang : Room := { frames := 6, cells := 0, slots := 0, locals := 189 }
theorem nk_X10_rang : MNk yX10_rang RX10 1 := ⟨rfl, by decide, by decide, by decide +kernel⟩
def P_X10_rang (F : Nat) (w : Wd) (x1 : Int32) : Option (Int32 × Wd) := (if x1 < 0 then some ((-1), w) else (if x1 < 6 then bnv (P_X10_countRows F w ) (fun w4 => bnd (P_X3_possible F w4 x1) (fun x6 w5 => bnd (P_J6_bitCount_0f7a4 F w5 x6) (fun x8 w7 => bnv (P_X10_tell F w7 (Int32.toInt64 x8)) (fun w9 => some (x6, w9))))) else some ((-1), w)))
set_option maxRecDepth 100000 in
set_option maxHeartbeats 4000000 in
theorem s_X10_rang {X : Cx} {S : Sx} {r : Int32 × Wd} {F : Nat} {w : Wd} {x1 : Int32}  (hX : Ok X S cX10_rang RX10 3 rm_X10_rang) (hR : HRt X S cX10_rang .int r) (hP : P_X10_rang F w x1 = some r) : V X S w 0 [(0, rf S 0), (1, .int x1)] [] := by
  unfold P_X10_rang at hP
  refine V_iload_n hX dX10_rang_0 1 rfl ?_
  refine V_if_lt (tgt := 10) hX dX10_rang_1 (by decide) (fun hc2 => ?_) (fun hc2 => ?_)
  · replace hP := ite_t hc2 hP
    refine V_iconst (v := (-1)) hX dX10_rang_10 (by decide) ?_
    exact hR _ _ _ _ (Option.some.inj hP) rfl dX10_rang_11
  · replace hP := ite_f hc2 hP
    refine V_iload_n hX dX10_rang_4 1 rfl ?_
    refine V_bipush (v := 6) hX dX10_rang_5 (by decide) ?_
    refine V_icmp_lt (tgt := 12) hX dX10_rang_7 (by decide) (fun hc3 => ?_) (fun hc3 => ?_)
    · replace hP := ite_t hc3 hP
      refine V_aload_n hX dX10_rang_12 0 rfl ?_
      obtain ⟨w4, hcw4, hP⟩ := bnv_e hP
      refine V_callVv (As := []) (rest := []) hX mk_X10_315 nk_X10_countRows (fun l => c_X10_countRows l S  hcw4) tb_0 rfl ⟨rfl, rfl, Nat.le_of_ble_eq_true rfl, Nat.le_of_ble_eq_true rfl⟩ rfl rfl (Nat.le_of_ble_eq_true rfl) dX10_rang_13 ?_
      refine V_aload_n hX dX10_rang_16 0 rfl ?_
      refine V_getF (j := 76) hX fk_X10_93 tb_0 (fun _ _ _ => rfl) dX10_rang_17 ?_
      refine V_iload_n hX dX10_rang_20 1 rfl ?_
      obtain ⟨x6, w5, hcw5, hP⟩ := bnd_e hP
      refine V_callVi (As := [.int x1]) (rest := []) hX mk_X10_331 nk_X3_possible (fun l => c_X3_possible l S  hcw5) tb_76 rfl ⟨rfl, rfl, Nat.le_of_ble_eq_true rfl, Nat.le_of_ble_eq_true rfl⟩ rfl rfl (Nat.le_of_ble_eq_true rfl) dX10_rang_21 ?_
      refine V_istore_n (lv' := [(2, .int x6), (0, rf S 0), (1, .int x1)]) hX dX10_rang_24 (by decide) rfl ?_
      refine V_aload_n hX dX10_rang_25 1 rfl ?_
      refine V_iload_n hX dX10_rang_26 0 rfl ?_
      obtain ⟨x8, w7, hcw7, hP⟩ := bnd_e hP
      refine V_callSi (As := [.int x6]) (rest := [rf S 0]) hX mk_X10_228 nk_J6_bitCount_0f7a4 (fun l => c_J6_bitCount_0f7a4 l S  hcw7) ⟨rfl, rfl, Nat.le_of_ble_eq_true rfl, Nat.le_of_ble_eq_true rfl⟩ rfl rfl (Nat.le_of_ble_eq_true rfl) dX10_rang_27 ?_
      refine V_i2l hX dX10_rang_30 ?_
      obtain ⟨w9, hcw9, hP⟩ := bnv_e hP
      refine V_callVv (As := [.long (Int32.toInt64 x8)]) (rest := []) hX mk_X10_263 nk_X10_tell (fun l => c_X10_tell l S  hcw9) tb_0 rfl ⟨rfl, rfl, Nat.le_of_ble_eq_true rfl, Nat.le_of_ble_eq_true rfl⟩ rfl rfl (Nat.le_of_ble_eq_true rfl) dX10_rang_31 ?_
      refine V_iload_n hX dX10_rang_34 0 rfl ?_
      exact hR _ _ _ _ (Option.some.inj hP) rfl dX10_rang_35
    · replace hP := ite_f hc3 hP
      refine V_iconst (v := (-1)) hX dX10_rang_10 (by decide) ?_
      exact hR _ _ _ _ (Option.some.inj hP) rfl dX10_rang_11
theorem c_X10_rang (l : Launch) (S : Sx) {r : Int32 × Wd} {F : Nat} {w : Wd} {x1 : Int32}  (h : P_X10_rang F w x1 = some r) : Met l yX10_rang (wsg yX10_rang cX10_rang 3 (some .int)) rm_X10_rang (PC S w [rf S 0, .int x1]) (QCi S r) 0 0 (Aw S) :=
  met_i (by decide) rfl (Nat.le_of_ble_eq_true rfl) ⟨rfl, rfl⟩ (fun X hX hR => s_X10_rang  hX hR h)

-- MustNotStop.ask()I
abbrev rm_X10_ask : Room := { frames := 6, cells := 0, slots := 0, locals := 189 }
theorem nk_X10_ask : MNk yX10_ask RX10 0 := ⟨rfl, by decide, by decide, by decide +kernel⟩
def K_X10_ask_41 (F : Nat)  (k47 : Wd → Int32 → Int32 → Option (Int32 × Wd)) (rc : Wd → Int32 → Int32 → Int32 → Option (Int32 × Wd)) (w : Wd) (x13 : Int32) (x14 : Int32) (x15 : Int32) : Option (Int32 × Wd) := lt (x15 + 1 : Int32) (fun x16 => rc w x13 x14 x16)
set_option maxRecDepth 100000 in
set_option maxHeartbeats 4000000 in
theorem sK_X10_ask_41 {X : Cx} {S : Sx} {r : Int32 × Wd} {F : Nat}  {k47 : Wd → Int32 → Int32 → Option (Int32 × Wd)} {rc : Wd → Int32 → Int32 → Int32 → Option (Int32 × Wd)} {w : Wd} {x13 : Int32} {x14 : Int32} {x15 : Int32} (hX : Ok X S cX10_ask RX10 5 rm_X10_ask) (hR : HRt X S cX10_ask .int r)  (hk47 : ∀ (w : Wd) (x5 : Int32) (x6 : Int32) , k47 w x5 x6 = some r → V X S w 47 [(0, rf S 0), (1, .int x5), (2, .int x6)] []) (hrc : ∀ (w : Wd) (x2 : Int32) (x3 : Int32) (x4 : Int32) , rc w x2 x3 x4 = some r → V X S w 11 [(0, rf S 0), (1, .int x2), (2, .int x3), (3, .int x4)] [])  (hP : K_X10_ask_41 F  k47 rc w x13 x14 x15 = some r) : V X S w 41 [(0, rf S 0), (1, .int x13), (2, .int x14), (3, .int x15)] [] := by
  unfold K_X10_ask_41 at hP
  obtain ⟨x16, ex16⟩ : ∃ y : Int32, y = x15 + 1 := ⟨_, rfl⟩
  replace hP := lt_r ex16 hP
  refine V_iinc (v := x16) (lv' := [(3, .int x16), (0, rf S 0), (1, .int x13), (2, .int x14)]) hX dX10_ask_41 (j := 3) rfl (by decide) (by rw [ex16]; rfl) rfl ?_
  refine V_goto (tgt := 11) hX dX10_ask_44 (by decide) ?_
  refine V_sub (lv' := [(0, rf S 0), (1, .int x13), (2, .int x14), (3, .int x16)]) [1, 2, 3, 0] rfl ?_
  exact hrc _ _ _ _  hP
def L_X10_ask_11 (F : Nat)  (k47 : Wd → Int32 → Int32 → Option (Int32 × Wd)) : Nat → Wd → Int32 → Int32 → Int32 → Option (Int32 × Wd)
  | 0, _, _, _, _ => none
  | n + 1, w, x2, x3, x4 => (if (6 : Int32) ≤ x4 then k47 w x2 x3 else bnd (P_X3_possible F w x4) (fun x9 w8 => bnd (P_J6_bitCount_0f7a4 F w8 x9) (fun x11 w10 => (if x11 ≤ x3 then K_X10_ask_41 F  k47 ((L_X10_ask_11 F  k47 n)) w10 x2 x3 x4 else K_X10_ask_41 F  k47 ((L_X10_ask_11 F  k47 n)) w10 x4 x11 x4))))
set_option maxRecDepth 100000 in
set_option maxHeartbeats 4000000 in
theorem sL_X10_ask_11 {X : Cx} {S : Sx} {r : Int32 × Wd} {F : Nat}  {k47 : Wd → Int32 → Int32 → Option (Int32 × Wd)} (hX : Ok X S cX10_ask RX10 5 rm_X10_ask) (hR : HRt X S cX10_ask .int r)  (hk47 : ∀ (w : Wd) (x5 : Int32) (x6 : Int32) , k47 w x5 x6 = some r → V X S w 47 [(0, rf S 0), (1, .int x5), (2, .int x6)] []) : ∀ (n : Nat) (w : Wd) (x2 : Int32) (x3 : Int32) (x4 : Int32) , L_X10_ask_11 F  k47 n w x2 x3 x4 = some r → V X S w 11 [(0, rf S 0), (1, .int x2), (2, .int x3), (3, .int x4)] [] := by
  intro n
  induction n with
  | zero =>
    intro w x2 x3 x4  hP
    exact nn hP
  | succ n ih =>
    intro w x2 x3 x4  hP
    rw [L_X10_ask_11] at hP
    refine V_iload_n hX dX10_ask_11 3 rfl ?_
    refine V_bipush (v := 6) hX dX10_ask_12 (by decide) ?_
    refine V_icmp_ge (tgt := 47) hX dX10_ask_14 (by decide) (fun hc7 => ?_) (fun hc7 => ?_)
    · replace hP := ite_t hc7 hP
      refine V_sub (lv' := [(0, rf S 0), (1, .int x2), (2, .int x3)]) [0, 1, 2] rfl ?_
      exact hk47 _ _ _  hP
    · replace hP := ite_f hc7 hP
      refine V_aload_n hX dX10_ask_17 0 rfl ?_
      refine V_getF (j := 76) hX fk_X10_93 tb_0 (fun _ _ _ => rfl) dX10_ask_18 ?_
      refine V_iload_n hX dX10_ask_21 3 rfl ?_
      obtain ⟨x9, w8, hcw8, hP⟩ := bnd_e hP
      refine V_callVi (As := [.int x4]) (rest := []) hX mk_X10_331 nk_X3_possible (fun l => c_X3_possible l S  hcw8) tb_76 rfl ⟨rfl, rfl, Nat.le_of_ble_eq_true rfl, Nat.le_of_ble_eq_true rfl⟩ rfl rfl (Nat.le_of_ble_eq_true rfl) dX10_ask_22 ?_
      obtain ⟨x11, w10, hcw10, hP⟩ := bnd_e hP
      refine V_callSi (As := [.int x9]) (rest := []) hX mk_X10_228 nk_J6_bitCount_0f7a4 (fun l => c_J6_bitCount_0f7a4 l S  hcw10) ⟨rfl, rfl, Nat.le_of_ble_eq_true rfl, Nat.le_of_ble_eq_true rfl⟩ rfl rfl (Nat.le_of_ble_eq_true rfl) dX10_ask_25 ?_
      refine V_istore (lv' := [(4, .int x11), (0, rf S 0), (1, .int x2), (2, .int x3), (3, .int x4)]) hX dX10_ask_28 (by decide) rfl ?_
      refine V_iload hX dX10_ask_30 0 rfl ?_
      refine V_iload_n hX dX10_ask_32 3 rfl ?_
      refine V_icmp_le (tgt := 41) hX dX10_ask_33 (by decide) (fun hc12 => ?_) (fun hc12 => ?_)
      · replace hP := ite_t hc12 hP
        refine V_sub (lv' := [(0, rf S 0), (1, .int x2), (2, .int x3), (3, .int x4)]) [1, 2, 3, 4] rfl ?_
        exact sK_X10_ask_41 hX hR  hk47 ih  hP
      · replace hP := ite_f hc12 hP
        refine V_iload hX dX10_ask_36 0 rfl ?_
        refine V_istore_n (lv' := [(2, .int x11), (4, .int x11), (0, rf S 0), (1, .int x2), (3, .int x4)]) hX dX10_ask_38 (by decide) rfl ?_
        refine V_iload_n hX dX10_ask_39 4 rfl ?_
        refine V_istore_n (lv' := [(1, .int x4), (2, .int x11), (4, .int x11), (0, rf S 0), (3, .int x4)]) hX dX10_ask_40 (by decide) rfl ?_
        refine V_sub (lv' := [(0, rf S 0), (1, .int x4), (2, .int x11), (3, .int x4)]) [3, 0, 1, 4] rfl ?_
        exact sK_X10_ask_41 hX hR  hk47 ih  hP
def P_X10_ask (F : Nat) (w : Wd)  : Option (Int32 × Wd) := bnv (P_X10_countRows F w ) (fun w1 => L_X10_ask_11 F  (fun w x5 x6 => (if x5 < 0 then some (x5, w) else bnv (P_X10_tell F w (Int32.toInt64 x6)) (fun w18 => some (x5, w18)))) F w1 ((-2)) 0 0)
set_option maxRecDepth 100000 in
set_option maxHeartbeats 4000000 in
theorem s_X10_ask {X : Cx} {S : Sx} {r : Int32 × Wd} {F : Nat} {w : Wd}   (hX : Ok X S cX10_ask RX10 5 rm_X10_ask) (hR : HRt X S cX10_ask .int r) (hP : P_X10_ask F w  = some r) : V X S w 0 [(0, rf S 0)] [] := by
  unfold P_X10_ask at hP
  refine V_aload_n hX dX10_ask_0 0 rfl ?_
  obtain ⟨w1, hcw1, hP⟩ := bnv_e hP
  refine V_callVv (As := []) (rest := []) hX mk_X10_315 nk_X10_countRows (fun l => c_X10_countRows l S  hcw1) tb_0 rfl ⟨rfl, rfl, Nat.le_of_ble_eq_true rfl, Nat.le_of_ble_eq_true rfl⟩ rfl rfl (Nat.le_of_ble_eq_true rfl) dX10_ask_1 ?_
  refine V_bipush (v := (-2)) hX dX10_ask_4 (by decide) ?_
  refine V_istore_n (lv' := [(1, .int ((-2))), (0, rf S 0)]) hX dX10_ask_6 (by decide) rfl ?_
  refine V_iconst (v := 0) hX dX10_ask_7 (by decide) ?_
  refine V_istore_n (lv' := [(2, .int 0), (1, .int ((-2))), (0, rf S 0)]) hX dX10_ask_8 (by decide) rfl ?_
  refine V_iconst (v := 0) hX dX10_ask_9 (by decide) ?_
  refine V_istore_n (lv' := [(3, .int 0), (2, .int 0), (1, .int ((-2))), (0, rf S 0)]) hX dX10_ask_10 (by decide) rfl ?_
  refine V_sub (lv' := [(0, rf S 0), (1, .int ((-2))), (2, .int 0), (3, .int 0)]) [3, 2, 1, 0] rfl ?_
  have k19 : ∀ (w : Wd) (x5 : Int32) (x6 : Int32) , ((if x5 < 0 then some (x5, w) else bnv (P_X10_tell F w (Int32.toInt64 x6)) (fun w18 => some (x5, w18)))) = some r → V X S w 47 [(0, rf S 0), (1, .int x5), (2, .int x6)] [] := by
    intro w x5 x6  hP
    refine V_iload_n hX dX10_ask_47 1 rfl ?_
    refine V_if_lt (tgt := 57) hX dX10_ask_48 (by decide) (fun hc17 => ?_) (fun hc17 => ?_)
    · replace hP := ite_t hc17 hP
      refine V_iload_n hX dX10_ask_57 1 rfl ?_
      exact hR _ _ _ _ (Option.some.inj hP) rfl dX10_ask_58
    · replace hP := ite_f hc17 hP
      refine V_aload_n hX dX10_ask_51 0 rfl ?_
      refine V_iload_n hX dX10_ask_52 2 rfl ?_
      refine V_i2l hX dX10_ask_53 ?_
      obtain ⟨w18, hcw18, hP⟩ := bnv_e hP
      refine V_callVv (As := [.long (Int32.toInt64 x6)]) (rest := []) hX mk_X10_263 nk_X10_tell (fun l => c_X10_tell l S  hcw18) tb_0 rfl ⟨rfl, rfl, Nat.le_of_ble_eq_true rfl, Nat.le_of_ble_eq_true rfl⟩ rfl rfl (Nat.le_of_ble_eq_true rfl) dX10_ask_54 ?_
      refine V_iload_n hX dX10_ask_57 1 rfl ?_
      exact hR _ _ _ _ (Option.some.inj hP) rfl dX10_ask_58
  exact sL_X10_ask_11 hX hR  k19 F _ _ _ _  hP
theorem c_X10_ask (l : Launch) (S : Sx) {r : Int32 × Wd} {F : Nat} {w : Wd}   (h : P_X10_ask F w  = some r) : Met l yX10_ask (wsg yX10_ask cX10_ask 5 (some .int)) rm_X10_ask (PC S w [rf S 0]) (QCi S r) 0 0 (Aw S) :=
  met_i (by decide) rfl (Nat.le_of_ble_eq_true rfl) ⟨rfl, rfl⟩ (fun X hX hR => s_X10_ask  hX hR h)

-- MustNotStop.power(JI)J
abbrev rm_X10_power : Room := { frames := 1, cells := 0, slots := 0, locals := 64 }
theorem nk_X10_power : MNk yX10_power RX10 2 := ⟨rfl, by decide, by decide, by decide +kernel⟩
def L_X10_power_5 (F : Nat) (x1 : Int64) (x2 : Int32) (k21 : Wd → Int64 → Option (Int64 × Wd)) : Nat → Wd → Int64 → Int32 → Option (Int64 × Wd)
  | 0, _, _, _ => none
  | n + 1, w, x3, x4 => (if x2 ≤ x4 then k21 w x3 else lt (x3 * x1 : Int64) (fun x7 => lt (x4 + 1 : Int32) (fun x8 => L_X10_power_5 F x1 x2 k21 n w x7 x8)))
set_option maxRecDepth 100000 in
set_option maxHeartbeats 4000000 in
theorem sL_X10_power_5 {X : Cx} {S : Sx} {r : Int64 × Wd} {F : Nat} {x1 : Int64} {x2 : Int32} {k21 : Wd → Int64 → Option (Int64 × Wd)} (hX : Ok X S cX10_power RX10 6 rm_X10_power) (hR : HRl X S cX10_power r)  (hk21 : ∀ (w : Wd) (x5 : Int64) , k21 w x5 = some r → V X S w 21 [(3, .long x5)] []) : ∀ (n : Nat) (w : Wd) (x3 : Int64) (x4 : Int32) , L_X10_power_5 F x1 x2 k21 n w x3 x4 = some r → V X S w 5 [(0, .long x1), (2, .int x2), (3, .long x3), (5, .int x4)] [] := by
  intro n
  induction n with
  | zero =>
    intro w x3 x4  hP
    exact nn hP
  | succ n ih =>
    intro w x3 x4  hP
    rw [L_X10_power_5] at hP
    refine V_iload hX dX10_power_5 3 rfl ?_
    refine V_iload_n hX dX10_power_7 1 rfl ?_
    refine V_icmp_ge (tgt := 21) hX dX10_power_8 (by decide) (fun hc6 => ?_) (fun hc6 => ?_)
    · replace hP := ite_t hc6 hP
      refine V_sub (lv' := [(3, .long x3)]) [2] rfl ?_
      exact hk21 _ _  hP
    · replace hP := ite_f hc6 hP
      refine V_lload_n hX dX10_power_11 2 rfl ?_
      refine V_lload_n hX dX10_power_12 0 rfl ?_
      refine V_lmul hX dX10_power_13 ?_
      refine V_topl (fun x7 ex7 => ?_)
      replace hP := lt_r ex7 hP
      refine V_lstore_n (lv' := [(3, .long x7), (0, .long x1), (2, .int x2), (5, .int x4)]) hX dX10_power_14 (by decide) rfl ?_
      obtain ⟨x8, ex8⟩ : ∃ y : Int32, y = x4 + 1 := ⟨_, rfl⟩
      replace hP := lt_r ex8 hP
      refine V_iinc (v := x8) (lv' := [(5, .int x8), (3, .long x7), (0, .long x1), (2, .int x2)]) hX dX10_power_15 (j := 3) rfl (by decide) (by rw [ex8]; rfl) rfl ?_
      refine V_goto (tgt := 5) hX dX10_power_18 (by decide) ?_
      refine V_sub (lv' := [(0, .long x1), (2, .int x2), (3, .long x7), (5, .int x8)]) [2, 3, 1, 0] rfl ?_
      exact ih _ _ _  hP
def P_X10_power (F : Nat) (w : Wd) (x1 : Int64) (x2 : Int32) : Option (Int64 × Wd) := L_X10_power_5 F x1 x2 (fun w x5 => some (x5, w)) F w 1 0
set_option maxRecDepth 100000 in
set_option maxHeartbeats 4000000 in
theorem s_X10_power {X : Cx} {S : Sx} {r : Int64 × Wd} {F : Nat} {w : Wd} {x1 : Int64} {x2 : Int32}  (hX : Ok X S cX10_power RX10 6 rm_X10_power) (hR : HRl X S cX10_power r) (hP : P_X10_power F w x1 x2 = some r) : V X S w 0 [(0, .long x1), (2, .int x2)] [] := by
  unfold P_X10_power at hP
  refine V_lconst (v := 1) hX dX10_power_0 rfl ?_
  refine V_lstore_n (lv' := [(3, .long 1), (0, .long x1), (2, .int x2)]) hX dX10_power_1 (by decide) rfl ?_
  refine V_iconst (v := 0) hX dX10_power_2 (by decide) ?_
  refine V_istore (lv' := [(5, .int 0), (3, .long 1), (0, .long x1), (2, .int x2)]) hX dX10_power_3 (by decide) rfl ?_
  refine V_sub (lv' := [(0, .long x1), (2, .int x2), (3, .long 1), (5, .int 0)]) [2, 3, 1, 0] rfl ?_
  have k9 : ∀ (w : Wd) (x5 : Int64) , (some (x5, w)) = some r → V X S w 21 [(3, .long x5)] [] := by
    intro w x5  hP
    refine V_lload_n hX dX10_power_21 0 rfl ?_
    exact hR _ _ _ _ (Option.some.inj hP) dX10_power_22
  exact sL_X10_power_5 hX hR  k9 F _ _ _  hP
theorem c_X10_power (l : Launch) (S : Sx) {r : Int64 × Wd} {F : Nat} {w : Wd} {x1 : Int64} {x2 : Int32}  (h : P_X10_power F w x1 x2 = some r) : Met l yX10_power (wsg yX10_power cX10_power 6 (some .long)) rm_X10_power (PC S w [.long x1, .int x2]) (QCl S r) 0 0 (Aw S) :=
  met_l (by decide) rfl (Nat.le_of_ble_eq_true rfl) ⟨rfl, rfl⟩ (fun X hX hR => s_X10_power  hX hR h)

-- MustNotStop.commonDivisor(JJ)J
abbrev rm_X10_commonDivisor : Room := { frames := 1, cells := 0, slots := 0, locals := 64 }
theorem nk_X10_commonDivisor : MNk yX10_commonDivisor RX10 2 := ⟨rfl, by decide, by decide, by decide +kernel⟩
def L_X10_commonDivisor_9 (F : Nat) (x1 : Int64) (x2 : Int64) (k45 : Wd → Int64 → Option (Int64 × Wd)) : Nat → Wd → Int64 → Int64 → Int32 → Option (Int64 × Wd)
  | 0, _, _, _, _ => none
  | n + 1, w, x3, x4, x5 => (if (200 : Int32) ≤ x5 then k45 w x3 else (if (lg_cmp x4 0) = 0 then k45 w x3 else gd (neZL x4) (lt (lremL x3 x4 : Int64) (fun x10 => lt (x5 + 1 : Int32) (fun x11 => L_X10_commonDivisor_9 F x1 x2 k45 n w x4 x10 x11)))))
set_option maxRecDepth 100000 in
set_option maxHeartbeats 4000000 in
theorem sL_X10_commonDivisor_9 {X : Cx} {S : Sx} {r : Int64 × Wd} {F : Nat} {x1 : Int64} {x2 : Int64} {k45 : Wd → Int64 → Option (Int64 × Wd)} (hX : Ok X S cX10_commonDivisor RX10 11 rm_X10_commonDivisor) (hR : HRl X S cX10_commonDivisor r)  (hk45 : ∀ (w : Wd) (x6 : Int64) , k45 w x6 = some r → V X S w 45 [(4, .long x6)] []) : ∀ (n : Nat) (w : Wd) (x3 : Int64) (x4 : Int64) (x5 : Int32) , L_X10_commonDivisor_9 F x1 x2 k45 n w x3 x4 x5 = some r → V X S w 9 [(4, .long x3), (6, .long x4), (8, .int x5), (0, .long x1), (2, .long x2)] [] := by
  intro n
  induction n with
  | zero =>
    intro w x3 x4 x5  hP
    exact nn hP
  | succ n ih =>
    intro w x3 x4 x5  hP
    rw [L_X10_commonDivisor_9] at hP
    refine V_iload hX dX10_commonDivisor_9 2 rfl ?_
    refine V_sipush (v := 200) hX dX10_commonDivisor_11 (by decide) ?_
    refine V_icmp_ge (tgt := 45) hX dX10_commonDivisor_14 (by decide) (fun hc7 => ?_) (fun hc7 => ?_)
    · replace hP := ite_t hc7 hP
      refine V_sub (lv' := [(4, .long x3)]) [0] rfl ?_
      exact hk45 _ _  hP
    · replace hP := ite_f hc7 hP
      refine V_lload hX dX10_commonDivisor_17 1 rfl ?_
      refine V_lconst (v := 0) hX dX10_commonDivisor_19 rfl ?_
      refine V_lcmp hX dX10_commonDivisor_20 ?_
      refine V_if_eq (tgt := 45) hX dX10_commonDivisor_21 (by decide) (fun hc8 => ?_) (fun hc8 => ?_)
      · replace hP := ite_t hc8 hP
        refine V_sub (lv' := [(4, .long x3)]) [0] rfl ?_
        exact hk45 _ _  hP
      · replace hP := ite_f hc8 hP
        refine V_lload hX dX10_commonDivisor_24 0 rfl ?_
        refine V_lload hX dX10_commonDivisor_26 1 rfl ?_
        obtain ⟨hz9, hP⟩ := gd_e hP
        refine V_lrem hX dX10_commonDivisor_28 hz9 ?_
        refine V_topl (fun x10 ex10 => ?_)
        replace hP := lt_r ex10 hP
        refine V_lstore (lv' := [(9, .long x10), (4, .long x3), (6, .long x4), (8, .int x5), (0, .long x1), (2, .long x2)]) hX dX10_commonDivisor_29 (by decide) rfl ?_
        refine V_lload hX dX10_commonDivisor_31 2 rfl ?_
        refine V_lstore (lv' := [(4, .long x4), (9, .long x10), (6, .long x4), (8, .int x5), (0, .long x1), (2, .long x2)]) hX dX10_commonDivisor_33 (by decide) rfl ?_
        refine V_lload hX dX10_commonDivisor_35 1 rfl ?_
        refine V_lstore (lv' := [(6, .long x10), (4, .long x4), (9, .long x10), (8, .int x5), (0, .long x1), (2, .long x2)]) hX dX10_commonDivisor_37 (by decide) rfl ?_
        obtain ⟨x11, ex11⟩ : ∃ y : Int32, y = x5 + 1 := ⟨_, rfl⟩
        replace hP := lt_r ex11 hP
        refine V_iinc (v := x11) (lv' := [(8, .int x11), (6, .long x10), (4, .long x4), (9, .long x10), (0, .long x1), (2, .long x2)]) hX dX10_commonDivisor_39 (j := 3) rfl (by decide) (by rw [ex11]; rfl) rfl ?_
        refine V_goto (tgt := 9) hX dX10_commonDivisor_42 (by decide) ?_
        refine V_sub (lv' := [(4, .long x4), (6, .long x10), (8, .int x11), (0, .long x1), (2, .long x2)]) [2, 1, 0, 4, 5] rfl ?_
        exact ih _ _ _ _  hP
def P_X10_commonDivisor (F : Nat) (w : Wd) (x1 : Int64) (x2 : Int64) : Option (Int64 × Wd) := L_X10_commonDivisor_9 F x1 x2 (fun w x6 => some (x6, w)) F w x1 x2 0
set_option maxRecDepth 100000 in
set_option maxHeartbeats 4000000 in
theorem s_X10_commonDivisor {X : Cx} {S : Sx} {r : Int64 × Wd} {F : Nat} {w : Wd} {x1 : Int64} {x2 : Int64}  (hX : Ok X S cX10_commonDivisor RX10 11 rm_X10_commonDivisor) (hR : HRl X S cX10_commonDivisor r) (hP : P_X10_commonDivisor F w x1 x2 = some r) : V X S w 0 [(0, .long x1), (2, .long x2)] [] := by
  unfold P_X10_commonDivisor at hP
  refine V_lload_n hX dX10_commonDivisor_0 0 rfl ?_
  refine V_lstore (lv' := [(4, .long x1), (0, .long x1), (2, .long x2)]) hX dX10_commonDivisor_1 (by decide) rfl ?_
  refine V_lload_n hX dX10_commonDivisor_3 2 rfl ?_
  refine V_lstore (lv' := [(6, .long x2), (4, .long x1), (0, .long x1), (2, .long x2)]) hX dX10_commonDivisor_4 (by decide) rfl ?_
  refine V_iconst (v := 0) hX dX10_commonDivisor_6 (by decide) ?_
  refine V_istore (lv' := [(8, .int 0), (6, .long x2), (4, .long x1), (0, .long x1), (2, .long x2)]) hX dX10_commonDivisor_7 (by decide) rfl ?_
  refine V_sub (lv' := [(4, .long x1), (6, .long x2), (8, .int 0), (0, .long x1), (2, .long x2)]) [2, 1, 0, 3, 4] rfl ?_
  have k12 : ∀ (w : Wd) (x6 : Int64) , (some (x6, w)) = some r → V X S w 45 [(4, .long x6)] [] := by
    intro w x6  hP
    refine V_lload hX dX10_commonDivisor_45 0 rfl ?_
    exact hR _ _ _ _ (Option.some.inj hP) dX10_commonDivisor_47
  exact sL_X10_commonDivisor_9 hX hR  k12 F _ _ _ _  hP
theorem c_X10_commonDivisor (l : Launch) (S : Sx) {r : Int64 × Wd} {F : Nat} {w : Wd} {x1 : Int64} {x2 : Int64}  (h : P_X10_commonDivisor F w x1 x2 = some r) : Met l yX10_commonDivisor (wsg yX10_commonDivisor cX10_commonDivisor 11 (some .long)) rm_X10_commonDivisor (PC S w [.long x1, .long x2]) (QCl S r) 0 0 (Aw S) :=
  met_l (by decide) rfl (Nat.le_of_ble_eq_true rfl) ⟨rfl, rfl⟩ (fun X hX hR => s_X10_commonDivisor  hX hR h)

-- MustNotStop.sick(I)I
abbrev rm_X10_sick : Room := { frames := 5, cells := 0, slots := 0, locals := 166 }
theorem nk_X10_sick : MNk yX10_sick RX10 1 := ⟨rfl, by decide, by decide, by decide +kernel⟩
def P_X10_sick (F : Nat) (w : Wd) (x1 : Int32) : Option (Int32 × Wd) := (if x1 < 0 then some ((-1), w) else (if x1 ≤ 10 then bnd (P_X9_able F w 5 23) (fun x5 w4 => bnd (P_J6_bitCount_0f7a4 F w4 x5) (fun x7 w6 => bnd (P_X10_power F w6 10 x7) (fun x9 w8 => bnd (P_X10_power F w8 (Int32.toInt64 x1) x7) (fun x11 w10 => lt (x9 - x11 : Int64) (fun x12 => bnd (P_X10_commonDivisor F w10 x9 x12) (fun x14 w13 => (if (lg_cmp x14 0) = 0 then some ((-1), w13) else gd (neZL x14) (gd (neZL x14) (bnv (P_X10_tell_ F w13 (x12 / x14) (x9 / x14)) (fun w18 => some (0, w18))))))))))) else some ((-1), w)))
set_option maxRecDepth 100000 in
set_option maxHeartbeats 4000000 in
theorem s_X10_sick {X : Cx} {S : Sx} {r : Int32 × Wd} {F : Nat} {w : Wd} {x1 : Int32}  (hX : Ok X S cX10_sick RX10 9 rm_X10_sick) (hR : HRt X S cX10_sick .int r) (hP : P_X10_sick F w x1 = some r) : V X S w 0 [(0, rf S 0), (1, .int x1)] [] := by
  unfold P_X10_sick at hP
  refine V_iload_n hX dX10_sick_0 1 rfl ?_
  refine V_if_lt (tgt := 10) hX dX10_sick_1 (by decide) (fun hc2 => ?_) (fun hc2 => ?_)
  · replace hP := ite_t hc2 hP
    refine V_iconst (v := (-1)) hX dX10_sick_10 (by decide) ?_
    exact hR _ _ _ _ (Option.some.inj hP) rfl dX10_sick_11
  · replace hP := ite_f hc2 hP
    refine V_iload_n hX dX10_sick_4 1 rfl ?_
    refine V_bipush (v := 10) hX dX10_sick_5 (by decide) ?_
    refine V_icmp_le (tgt := 12) hX dX10_sick_7 (by decide) (fun hc3 => ?_) (fun hc3 => ?_)
    · replace hP := ite_t hc3 hP
      refine V_aload_n hX dX10_sick_12 0 rfl ?_
      refine V_getF (j := 5) hX fk_X10_34 tb_0 (fun _ _ _ => rfl) dX10_sick_13 ?_
      refine V_aload_n hX dX10_sick_16 0 rfl ?_
      refine V_getF (j := 23) hX fk_X10_58 tb_0 (fun _ _ _ => rfl) dX10_sick_17 ?_
      obtain ⟨x5, w4, hcw4, hP⟩ := bnd_e hP
      refine V_callVi (As := [rf S 23]) (rest := []) hX mk_X10_306 nk_X9_able (fun l => c_X9_able l S (by decide) (by decide) hcw4) tb_5 rfl ⟨rfl, rfl, Nat.le_of_ble_eq_true rfl, Nat.le_of_ble_eq_true rfl⟩ rfl rfl (Nat.le_of_ble_eq_true rfl) dX10_sick_20 ?_
      obtain ⟨x7, w6, hcw6, hP⟩ := bnd_e hP
      refine V_callSi (As := [.int x5]) (rest := []) hX mk_X10_228 nk_J6_bitCount_0f7a4 (fun l => c_J6_bitCount_0f7a4 l S  hcw6) ⟨rfl, rfl, Nat.le_of_ble_eq_true rfl, Nat.le_of_ble_eq_true rfl⟩ rfl rfl (Nat.le_of_ble_eq_true rfl) dX10_sick_23 ?_
      refine V_istore_n (lv' := [(2, .int x7), (0, rf S 0), (1, .int x1)]) hX dX10_sick_26 (by decide) rfl ?_
      refine V_ldc2 (v := 10) hX dX10_sick_27 cn_X10_334 ?_
      refine V_iload_n hX dX10_sick_30 0 rfl ?_
      obtain ⟨x9, w8, hcw8, hP⟩ := bnd_e hP
      refine V_callSl (As := [.long 10, .int x7]) (rest := []) hX mk_X10_336 nk_X10_power (fun l => c_X10_power l S  hcw8) ⟨rfl, rfl, Nat.le_of_ble_eq_true rfl, Nat.le_of_ble_eq_true rfl⟩ rfl rfl (Nat.le_of_ble_eq_true rfl) dX10_sick_31 ?_
      refine V_lstore_n (lv' := [(3, .long x9), (2, .int x7), (0, rf S 0), (1, .int x1)]) hX dX10_sick_34 (by decide) rfl ?_
      refine V_lload_n hX dX10_sick_35 0 rfl ?_
      refine V_iload_n hX dX10_sick_36 3 rfl ?_
      refine V_i2l hX dX10_sick_37 ?_
      refine V_iload_n hX dX10_sick_38 1 rfl ?_
      obtain ⟨x11, w10, hcw10, hP⟩ := bnd_e hP
      refine V_callSl (As := [.long (Int32.toInt64 x1), .int x7]) (rest := [.long x9]) hX mk_X10_336 nk_X10_power (fun l => c_X10_power l S  hcw10) ⟨rfl, rfl, Nat.le_of_ble_eq_true rfl, Nat.le_of_ble_eq_true rfl⟩ rfl rfl (Nat.le_of_ble_eq_true rfl) dX10_sick_39 ?_
      refine V_lsub hX dX10_sick_42 ?_
      refine V_topl (fun x12 ex12 => ?_)
      replace hP := lt_r ex12 hP
      refine V_lstore (lv' := [(5, .long x12), (3, .long x9), (2, .int x7), (0, rf S 0), (1, .int x1)]) hX dX10_sick_43 (by decide) rfl ?_
      refine V_lload_n hX dX10_sick_45 1 rfl ?_
      refine V_lload hX dX10_sick_46 0 rfl ?_
      obtain ⟨x14, w13, hcw13, hP⟩ := bnd_e hP
      refine V_callSl (As := [.long x9, .long x12]) (rest := []) hX mk_X10_340 nk_X10_commonDivisor (fun l => c_X10_commonDivisor l S  hcw13) ⟨rfl, rfl, Nat.le_of_ble_eq_true rfl, Nat.le_of_ble_eq_true rfl⟩ rfl rfl (Nat.le_of_ble_eq_true rfl) dX10_sick_48 ?_
      refine V_lstore (lv' := [(7, .long x14), (5, .long x12), (3, .long x9), (2, .int x7), (0, rf S 0), (1, .int x1)]) hX dX10_sick_51 (by decide) rfl ?_
      refine V_lload hX dX10_sick_53 0 rfl ?_
      refine V_lconst (v := 0) hX dX10_sick_55 rfl ?_
      refine V_lcmp hX dX10_sick_56 ?_
      refine V_if_ne (tgt := 62) hX dX10_sick_57 (by decide) (fun hc15 => ?_) (fun hc15 => ?_)
      · replace hP := ite_f hc15 hP
        refine V_aload_n hX dX10_sick_62 4 rfl ?_
        refine V_lload hX dX10_sick_63 1 rfl ?_
        refine V_lload hX dX10_sick_65 0 rfl ?_
        obtain ⟨hz16, hP⟩ := gd_e hP
        refine V_ldiv hX dX10_sick_67 hz16 ?_
        refine V_lload_n hX dX10_sick_68 2 rfl ?_
        refine V_lload hX dX10_sick_69 0 rfl ?_
        obtain ⟨hz17, hP⟩ := gd_e hP
        refine V_ldiv hX dX10_sick_71 hz17 ?_
        obtain ⟨w18, hcw18, hP⟩ := bnv_e hP
        refine V_callVv (As := [.long (x12 / x14), .long (x9 / x14)]) (rest := []) hX mk_X10_202 nk_X10_tell_ (fun l => c_X10_tell_ l S  hcw18) tb_0 rfl ⟨rfl, rfl, Nat.le_of_ble_eq_true rfl, Nat.le_of_ble_eq_true rfl⟩ rfl rfl (Nat.le_of_ble_eq_true rfl) dX10_sick_72 ?_
        refine V_iconst (v := 0) hX dX10_sick_75 (by decide) ?_
        exact hR _ _ _ _ (Option.some.inj hP) rfl dX10_sick_76
      · replace hP := ite_t hc15 hP
        refine V_iconst (v := (-1)) hX dX10_sick_60 (by decide) ?_
        exact hR _ _ _ _ (Option.some.inj hP) rfl dX10_sick_61
    · replace hP := ite_f hc3 hP
      refine V_iconst (v := (-1)) hX dX10_sick_10 (by decide) ?_
      exact hR _ _ _ _ (Option.some.inj hP) rfl dX10_sick_11
theorem c_X10_sick (l : Launch) (S : Sx) {r : Int32 × Wd} {F : Nat} {w : Wd} {x1 : Int32}  (h : P_X10_sick F w x1 = some r) : Met l yX10_sick (wsg yX10_sick cX10_sick 9 (some .int)) rm_X10_sick (PC S w [rf S 0, .int x1]) (QCi S r) 0 0 (Aw S) :=
  met_i (by decide) rfl (Nat.le_of_ble_eq_true rfl) ⟨rfl, rfl⟩ (fun X hX hR => s_X10_sick  hX hR h)

-- MustNotStop.risk(I)I
abbrev rm_X10_risk : Room := { frames := 5, cells := 0, slots := 0, locals := 166 }
theorem nk_X10_risk : MNk yX10_risk RX10 1 := ⟨rfl, by decide, by decide, by decide +kernel⟩
def L_X10_risk_42 (F : Nat) (x1 : Int32) (x10 : Int32) (x11 : Int64) (k80 : Wd → Int32 → Option (Int32 × Wd)) : Nat → Wd → Int32 → Int32 → Option (Int32 × Wd)
  | 0, _, _, _ => none
  | n + 1, w, x12, x13 => (if (10 : Int32) < x13 then k80 w x12 else bnd (P_X10_power F w (Int32.toInt64 x13) x10) (fun x17 w16 => (if (lg_cmp ((x11 - x17) * 100) ((Int32.toInt64 x1) * x11)) < 0 then k80 w16 x12 else lt (x13 + 1 : Int32) (fun x19 => L_X10_risk_42 F x1 x10 x11 k80 n w16 x13 x19))))
set_option maxRecDepth 100000 in
set_option maxHeartbeats 4000000 in
theorem sL_X10_risk_42 {X : Cx} {S : Sx} {r : Int32 × Wd} {F : Nat} {x1 : Int32} {x10 : Int32} {x11 : Int64} {k80 : Wd → Int32 → Option (Int32 × Wd)} (hX : Ok X S cX10_risk RX10 7 rm_X10_risk) (hR : HRt X S cX10_risk .int r)  (hk80 : ∀ (w : Wd) (x14 : Int32) , k80 w x14 = some r → V X S w 80 [(5, .int x14)] []) : ∀ (n : Nat) (w : Wd) (x12 : Int32) (x13 : Int32) , L_X10_risk_42 F x1 x10 x11 k80 n w x12 x13 = some r → V X S w 42 [(1, .int x1), (2, .int x10), (3, .long x11), (5, .int x12), (6, .int x13), (0, rf S 0)] [] := by
  intro n
  induction n with
  | zero =>
    intro w x12 x13  hP
    exact nn hP
  | succ n ih =>
    intro w x12 x13  hP
    rw [L_X10_risk_42] at hP
    refine V_iload hX dX10_risk_42 4 rfl ?_
    refine V_bipush (v := 10) hX dX10_risk_44 (by decide) ?_
    refine V_icmp_gt (tgt := 80) hX dX10_risk_46 (by decide) (fun hc15 => ?_) (fun hc15 => ?_)
    · replace hP := ite_t hc15 hP
      refine V_sub (lv' := [(5, .int x12)]) [3] rfl ?_
      exact hk80 _ _  hP
    · replace hP := ite_f hc15 hP
      refine V_lload_n hX dX10_risk_49 2 rfl ?_
      refine V_iload hX dX10_risk_50 4 rfl ?_
      refine V_i2l hX dX10_risk_52 ?_
      refine V_iload_n hX dX10_risk_53 1 rfl ?_
      obtain ⟨x17, w16, hcw16, hP⟩ := bnd_e hP
      refine V_callSl (As := [.long (Int32.toInt64 x13), .int x10]) (rest := [.long x11]) hX mk_X10_336 nk_X10_power (fun l => c_X10_power l S  hcw16) ⟨rfl, rfl, Nat.le_of_ble_eq_true rfl, Nat.le_of_ble_eq_true rfl⟩ rfl rfl (Nat.le_of_ble_eq_true rfl) dX10_risk_54 ?_
      refine V_lsub hX dX10_risk_57 ?_
      refine V_ldc2 (v := 100) hX dX10_risk_58 cn_X10_344 ?_
      refine V_lmul hX dX10_risk_61 ?_
      refine V_iload_n hX dX10_risk_62 0 rfl ?_
      refine V_i2l hX dX10_risk_63 ?_
      refine V_lload_n hX dX10_risk_64 2 rfl ?_
      refine V_lmul hX dX10_risk_65 ?_
      refine V_lcmp hX dX10_risk_66 ?_
      refine V_if_lt (tgt := 80) hX dX10_risk_67 (by decide) (fun hc18 => ?_) (fun hc18 => ?_)
      · replace hP := ite_t hc18 hP
        refine V_sub (lv' := [(5, .int x12)]) [3] rfl ?_
        exact hk80 _ _  hP
      · replace hP := ite_f hc18 hP
        refine V_iload hX dX10_risk_70 4 rfl ?_
        refine V_istore (lv' := [(5, .int x13), (1, .int x1), (2, .int x10), (3, .long x11), (6, .int x13), (0, rf S 0)]) hX dX10_risk_72 (by decide) rfl ?_
        obtain ⟨x19, ex19⟩ : ∃ y : Int32, y = x13 + 1 := ⟨_, rfl⟩
        replace hP := lt_r ex19 hP
        refine V_iinc (v := x19) (lv' := [(6, .int x19), (5, .int x13), (1, .int x1), (2, .int x10), (3, .long x11), (0, rf S 0)]) hX dX10_risk_74 (j := 4) rfl (by decide) (by rw [ex19]; rfl) rfl ?_
        refine V_goto (tgt := 42) hX dX10_risk_77 (by decide) ?_
        refine V_sub (lv' := [(1, .int x1), (2, .int x10), (3, .long x11), (5, .int x13), (6, .int x19), (0, rf S 0)]) [2, 3, 4, 1, 0, 5] rfl ?_
        exact ih _ _ _  hP
def P_X10_risk (F : Nat) (w : Wd) (x1 : Int32) : Option (Int32 × Wd) := (if x1 < 0 then some ((-1), w) else (if x1 ≤ 100 then bnd (P_X9_able F w 5 23) (fun x5 w4 => bnd (P_J6_bitCount_0f7a4 F w4 x5) (fun x7 w6 => bnd (P_X10_power F w6 10 x7) (fun x9 w8 => L_X10_risk_42 F x1 x7 x9 (fun w x14 => some (x14, w)) F w8 ((-2)) 0))) else some ((-1), w)))
set_option maxRecDepth 100000 in
set_option maxHeartbeats 4000000 in
theorem s_X10_risk {X : Cx} {S : Sx} {r : Int32 × Wd} {F : Nat} {w : Wd} {x1 : Int32}  (hX : Ok X S cX10_risk RX10 7 rm_X10_risk) (hR : HRt X S cX10_risk .int r) (hP : P_X10_risk F w x1 = some r) : V X S w 0 [(0, rf S 0), (1, .int x1)] [] := by
  unfold P_X10_risk at hP
  refine V_iload_n hX dX10_risk_0 1 rfl ?_
  refine V_if_lt (tgt := 10) hX dX10_risk_1 (by decide) (fun hc2 => ?_) (fun hc2 => ?_)
  · replace hP := ite_t hc2 hP
    refine V_iconst (v := (-1)) hX dX10_risk_10 (by decide) ?_
    exact hR _ _ _ _ (Option.some.inj hP) rfl dX10_risk_11
  · replace hP := ite_f hc2 hP
    refine V_iload_n hX dX10_risk_4 1 rfl ?_
    refine V_bipush (v := 100) hX dX10_risk_5 (by decide) ?_
    refine V_icmp_le (tgt := 12) hX dX10_risk_7 (by decide) (fun hc3 => ?_) (fun hc3 => ?_)
    · replace hP := ite_t hc3 hP
      refine V_aload_n hX dX10_risk_12 0 rfl ?_
      refine V_getF (j := 5) hX fk_X10_34 tb_0 (fun _ _ _ => rfl) dX10_risk_13 ?_
      refine V_aload_n hX dX10_risk_16 0 rfl ?_
      refine V_getF (j := 23) hX fk_X10_58 tb_0 (fun _ _ _ => rfl) dX10_risk_17 ?_
      obtain ⟨x5, w4, hcw4, hP⟩ := bnd_e hP
      refine V_callVi (As := [rf S 23]) (rest := []) hX mk_X10_306 nk_X9_able (fun l => c_X9_able l S (by decide) (by decide) hcw4) tb_5 rfl ⟨rfl, rfl, Nat.le_of_ble_eq_true rfl, Nat.le_of_ble_eq_true rfl⟩ rfl rfl (Nat.le_of_ble_eq_true rfl) dX10_risk_20 ?_
      obtain ⟨x7, w6, hcw6, hP⟩ := bnd_e hP
      refine V_callSi (As := [.int x5]) (rest := []) hX mk_X10_228 nk_J6_bitCount_0f7a4 (fun l => c_J6_bitCount_0f7a4 l S  hcw6) ⟨rfl, rfl, Nat.le_of_ble_eq_true rfl, Nat.le_of_ble_eq_true rfl⟩ rfl rfl (Nat.le_of_ble_eq_true rfl) dX10_risk_23 ?_
      refine V_istore_n (lv' := [(2, .int x7), (0, rf S 0), (1, .int x1)]) hX dX10_risk_26 (by decide) rfl ?_
      refine V_ldc2 (v := 10) hX dX10_risk_27 cn_X10_334 ?_
      refine V_iload_n hX dX10_risk_30 0 rfl ?_
      obtain ⟨x9, w8, hcw8, hP⟩ := bnd_e hP
      refine V_callSl (As := [.long 10, .int x7]) (rest := []) hX mk_X10_336 nk_X10_power (fun l => c_X10_power l S  hcw8) ⟨rfl, rfl, Nat.le_of_ble_eq_true rfl, Nat.le_of_ble_eq_true rfl⟩ rfl rfl (Nat.le_of_ble_eq_true rfl) dX10_risk_31 ?_
      refine V_lstore_n (lv' := [(3, .long x9), (2, .int x7), (0, rf S 0), (1, .int x1)]) hX dX10_risk_34 (by decide) rfl ?_
      refine V_bipush (v := (-2)) hX dX10_risk_35 (by decide) ?_
      refine V_istore (lv' := [(5, .int ((-2))), (3, .long x9), (2, .int x7), (0, rf S 0), (1, .int x1)]) hX dX10_risk_37 (by decide) rfl ?_
      refine V_iconst (v := 0) hX dX10_risk_39 (by decide) ?_
      refine V_istore (lv' := [(6, .int 0), (5, .int ((-2))), (3, .long x9), (2, .int x7), (0, rf S 0), (1, .int x1)]) hX dX10_risk_40 (by decide) rfl ?_
      refine V_sub (lv' := [(1, .int x1), (2, .int x7), (3, .long x9), (5, .int ((-2))), (6, .int 0), (0, rf S 0)]) [5, 3, 2, 1, 0, 4] rfl ?_
      have k20 : ∀ (w : Wd) (x14 : Int32) , (some (x14, w)) = some r → V X S w 80 [(5, .int x14)] [] := by
        intro w x14  hP
        refine V_iload hX dX10_risk_80 0 rfl ?_
        exact hR _ _ _ _ (Option.some.inj hP) rfl dX10_risk_82
      exact sL_X10_risk_42 hX hR  k20 F _ _ _  hP
    · replace hP := ite_f hc3 hP
      refine V_iconst (v := (-1)) hX dX10_risk_10 (by decide) ?_
      exact hR _ _ _ _ (Option.some.inj hP) rfl dX10_risk_11
theorem c_X10_risk (l : Launch) (S : Sx) {r : Int32 × Wd} {F : Nat} {w : Wd} {x1 : Int32}  (h : P_X10_risk F w x1 = some r) : Met l yX10_risk (wsg yX10_risk cX10_risk 7 (some .int)) rm_X10_risk (PC S w [rf S 0, .int x1]) (QCi S r) 0 0 (Aw S) :=
  met_i (by decide) rfl (Nat.le_of_ble_eq_true rfl) ⟨rfl, rfl⟩ (fun X hX hR => s_X10_risk  hX hR h)

-- MustNotStop.settle(II)I
abbrev rm_X10_settle : Room := { frames := 3, cells := 0, slots := 0, locals := 108 }
theorem nk_X10_settle : MNk yX10_settle RX10 2 := ⟨rfl, by decide, by decide, by decide +kernel⟩
def K_X10_settle_123 (F : Nat) (x1 : Int32) (x2 : Int32) (x15 : Int32) (x16 : Int32) (x17 : Int32) (x18 : Int32) (k129 : Wd → Int32 → Int32 → Option (Int32 × Wd)) (rc : Wd → Int32 → Int32 → Int32 → Option (Int32 × Wd)) (w : Wd) (x30 : Int32) (x31 : Int32) (x32 : Int32) : Option (Int32 × Wd) := lt (x32 + 1 : Int32) (fun x33 => rc w x30 x31 x33)
set_option maxRecDepth 100000 in
set_option maxHeartbeats 4000000 in
theorem sK_X10_settle_123 {X : Cx} {S : Sx} {r : Int32 × Wd} {F : Nat} {x1 : Int32} {x2 : Int32} {x15 : Int32} {x16 : Int32} {x17 : Int32} {x18 : Int32} {k129 : Wd → Int32 → Int32 → Option (Int32 × Wd)} {rc : Wd → Int32 → Int32 → Int32 → Option (Int32 × Wd)} {w : Wd} {x30 : Int32} {x31 : Int32} {x32 : Int32} (hX : Ok X S cX10_settle RX10 13 rm_X10_settle) (hR : HRt X S cX10_settle .int r)  (hk129 : ∀ (w : Wd) (x22 : Int32) (x23 : Int32) , k129 w x22 x23 = some r → V X S w 129 [(0, rf S 0), (1, .int x1), (2, .int x2), (5, .int x16), (8, .int x22), (9, .int x23)] []) (hrc : ∀ (w : Wd) (x19 : Int32) (x20 : Int32) (x21 : Int32) , rc w x19 x20 x21 = some r → V X S w 60 [(0, rf S 0), (1, .int x1), (2, .int x2), (4, .int x15), (5, .int x16), (6, .int x17), (7, .int x18), (8, .int x19), (9, .int x20), (10, .int x21)] [])  (hP : K_X10_settle_123 F x1 x2 x15 x16 x17 x18 k129 rc w x30 x31 x32 = some r) : V X S w 123 [(0, rf S 0), (1, .int x1), (2, .int x2), (4, .int x15), (5, .int x16), (6, .int x17), (7, .int x18), (8, .int x30), (9, .int x31), (10, .int x32)] [] := by
  unfold K_X10_settle_123 at hP
  obtain ⟨x33, ex33⟩ : ∃ y : Int32, y = x32 + 1 := ⟨_, rfl⟩
  replace hP := lt_r ex33 hP
  refine V_iinc (v := x33) (lv' := [(10, .int x33), (0, rf S 0), (1, .int x1), (2, .int x2), (4, .int x15), (5, .int x16), (6, .int x17), (7, .int x18), (8, .int x30), (9, .int x31)]) hX dX10_settle_123 (j := 9) rfl (by decide) (by rw [ex33]; rfl) rfl ?_
  refine V_goto (tgt := 60) hX dX10_settle_126 (by decide) ?_
  refine V_sub (lv' := [(0, rf S 0), (1, .int x1), (2, .int x2), (4, .int x15), (5, .int x16), (6, .int x17), (7, .int x18), (8, .int x30), (9, .int x31), (10, .int x33)]) [1, 2, 3, 4, 5, 6, 7, 8, 9, 0] rfl ?_
  exact hrc _ _ _ _  hP
def L_X10_settle_60 (F : Nat) (x1 : Int32) (x2 : Int32) (x15 : Int32) (x16 : Int32) (x17 : Int32) (x18 : Int32) (k129 : Wd → Int32 → Int32 → Option (Int32 × Wd)) : Nat → Wd → Int32 → Int32 → Int32 → Option (Int32 × Wd)
  | 0, _, _, _, _ => none
  | n + 1, w, x19, x20, x21 => (if x17 < x21 then k129 w x19 x20 else lt (if x21 < x18 then 0 else 1 : Int32) (fun x26 => lt (if x26 = 0 then x15 else x17 - x21 : Int32) (fun x28 => (if x28 ≤ x19 then K_X10_settle_123 F x1 x2 x15 x16 x17 x18 k129 ((L_X10_settle_60 F x1 x2 x15 x16 x17 x18 k129 n)) w x19 x20 x21 else lt (if x26 = 0 then x18 else x21 : Int32) (fun x35 => K_X10_settle_123 F x1 x2 x15 x16 x17 x18 k129 ((L_X10_settle_60 F x1 x2 x15 x16 x17 x18 k129 n)) w x28 x35 x21)))))
set_option maxRecDepth 100000 in
set_option maxHeartbeats 4000000 in
theorem sL_X10_settle_60 {X : Cx} {S : Sx} {r : Int32 × Wd} {F : Nat} {x1 : Int32} {x2 : Int32} {x15 : Int32} {x16 : Int32} {x17 : Int32} {x18 : Int32} {k129 : Wd → Int32 → Int32 → Option (Int32 × Wd)} (hX : Ok X S cX10_settle RX10 13 rm_X10_settle) (hR : HRt X S cX10_settle .int r)  (hk129 : ∀ (w : Wd) (x22 : Int32) (x23 : Int32) , k129 w x22 x23 = some r → V X S w 129 [(0, rf S 0), (1, .int x1), (2, .int x2), (5, .int x16), (8, .int x22), (9, .int x23)] []) : ∀ (n : Nat) (w : Wd) (x19 : Int32) (x20 : Int32) (x21 : Int32) , L_X10_settle_60 F x1 x2 x15 x16 x17 x18 k129 n w x19 x20 x21 = some r → V X S w 60 [(0, rf S 0), (1, .int x1), (2, .int x2), (4, .int x15), (5, .int x16), (6, .int x17), (7, .int x18), (8, .int x19), (9, .int x20), (10, .int x21)] [] := by
  intro n
  induction n with
  | zero =>
    intro w x19 x20 x21  hP
    exact nn hP
  | succ n ih =>
    intro w x19 x20 x21  hP
    rw [L_X10_settle_60] at hP
    refine V_iload hX dX10_settle_60 9 rfl ?_
    refine V_iload hX dX10_settle_62 5 rfl ?_
    refine V_icmp_gt (tgt := 129) hX dX10_settle_64 (by decide) (fun hc24 => ?_) (fun hc24 => ?_)
    · replace hP := ite_t hc24 hP
      refine V_sub (lv' := [(0, rf S 0), (1, .int x1), (2, .int x2), (5, .int x16), (8, .int x19), (9, .int x20)]) [0, 1, 2, 4, 7, 8] rfl ?_
      exact hk129 _ _ _  hP
    · replace hP := ite_f hc24 hP
      refine V_iload hX dX10_settle_67 9 rfl ?_
      refine V_iload hX dX10_settle_69 6 rfl ?_
      have k38 : V X S w 79 [(0, rf S 0), (1, .int x1), (2, .int x2), (4, .int x15), (5, .int x16), (6, .int x17), (7, .int x18), (8, .int x19), (9, .int x20), (10, .int x21)] [.int (if x21 < x18 then 0 else 1)] := by
        refine V_topi (fun x26 ex26 => ?_)
        replace hP := lt_r ex26 hP
        refine V_istore (lv' := [(11, .int x26), (0, rf S 0), (1, .int x1), (2, .int x2), (4, .int x15), (5, .int x16), (6, .int x17), (7, .int x18), (8, .int x19), (9, .int x20), (10, .int x21)]) hX dX10_settle_79 (by decide) rfl ?_
        refine V_iload hX dX10_settle_81 0 rfl ?_
        have k37 : V X S w 96 [(11, .int x26), (0, rf S 0), (1, .int x1), (2, .int x2), (4, .int x15), (5, .int x16), (6, .int x17), (7, .int x18), (8, .int x19), (9, .int x20), (10, .int x21)] [.int (if x26 = 0 then x15 else x17 - x21)] := by
          refine V_topi (fun x28 ex28 => ?_)
          replace hP := lt_r ex28 hP
          refine V_istore (lv' := [(12, .int x28), (11, .int x26), (0, rf S 0), (1, .int x1), (2, .int x2), (4, .int x15), (5, .int x16), (6, .int x17), (7, .int x18), (8, .int x19), (9, .int x20), (10, .int x21)]) hX dX10_settle_96 (by decide) rfl ?_
          refine V_iload hX dX10_settle_98 0 rfl ?_
          refine V_iload hX dX10_settle_100 9 rfl ?_
          refine V_icmp_le (tgt := 123) hX dX10_settle_102 (by decide) (fun hc29 => ?_) (fun hc29 => ?_)
          · replace hP := ite_t hc29 hP
            refine V_sub (lv' := [(0, rf S 0), (1, .int x1), (2, .int x2), (4, .int x15), (5, .int x16), (6, .int x17), (7, .int x18), (8, .int x19), (9, .int x20), (10, .int x21)]) [2, 3, 4, 5, 6, 7, 8, 9, 10, 11] rfl ?_
            exact sK_X10_settle_123 hX hR  hk129 ih  hP
          · replace hP := ite_f hc29 hP
            refine V_iload hX dX10_settle_105 0 rfl ?_
            refine V_istore (lv' := [(8, .int x28), (12, .int x28), (11, .int x26), (0, rf S 0), (1, .int x1), (2, .int x2), (4, .int x15), (5, .int x16), (6, .int x17), (7, .int x18), (9, .int x20), (10, .int x21)]) hX dX10_settle_107 (by decide) rfl ?_
            refine V_iload hX dX10_settle_109 2 rfl ?_
            have k36 : V X S w 121 [(8, .int x28), (12, .int x28), (11, .int x26), (0, rf S 0), (1, .int x1), (2, .int x2), (4, .int x15), (5, .int x16), (6, .int x17), (7, .int x18), (9, .int x20), (10, .int x21)] [.int (if x26 = 0 then x18 else x21)] := by
              refine V_topi (fun x35 ex35 => ?_)
              replace hP := lt_r ex35 hP
              refine V_istore (lv' := [(9, .int x35), (8, .int x28), (12, .int x28), (11, .int x26), (0, rf S 0), (1, .int x1), (2, .int x2), (4, .int x15), (5, .int x16), (6, .int x17), (7, .int x18), (10, .int x21)]) hX dX10_settle_121 (by decide) rfl ?_
              refine V_sub (lv' := [(0, rf S 0), (1, .int x1), (2, .int x2), (4, .int x15), (5, .int x16), (6, .int x17), (7, .int x18), (8, .int x28), (9, .int x35), (10, .int x21)]) [4, 5, 6, 7, 8, 9, 10, 1, 0, 11] rfl ?_
              exact sK_X10_settle_123 hX hR  hk129 ih  hP
            refine V_if_eq (tgt := 119) hX dX10_settle_111 (by decide) (fun hc34 => ?_) (fun hc34 => ?_)
            · refine V_iload hX dX10_settle_119 9 rfl ?_
              refine V_selT (c := x26 = 0) (b := x21) hc34 ?_
              exact k36
            · refine V_iload hX dX10_settle_114 11 rfl ?_
              refine V_goto (tgt := 121) hX dX10_settle_116 (by decide) ?_
              refine V_selF (c := x26 = 0) (a := x18) hc34 ?_
              exact k36
        refine V_if_eq (tgt := 94) hX dX10_settle_83 (by decide) (fun hc27 => ?_) (fun hc27 => ?_)
        · refine V_iload hX dX10_settle_94 4 rfl ?_
          refine V_selT (c := x26 = 0) (b := x17 - x21) hc27 ?_
          exact k37
        · refine V_iload hX dX10_settle_86 6 rfl ?_
          refine V_iload hX dX10_settle_88 10 rfl ?_
          refine V_isub hX dX10_settle_90 ?_
          refine V_goto (tgt := 96) hX dX10_settle_91 (by decide) ?_
          refine V_selF (c := x26 = 0) (a := x15) hc27 ?_
          exact k37
      refine V_icmp_lt (tgt := 78) hX dX10_settle_71 (by decide) (fun hc25 => ?_) (fun hc25 => ?_)
      · refine V_iconst (v := 0) hX dX10_settle_78 (by decide) ?_
        refine V_selT (c := x21 < x18) (b := 1) hc25 ?_
        exact k38
      · refine V_iconst (v := 1) hX dX10_settle_74 (by decide) ?_
        refine V_goto (tgt := 79) hX dX10_settle_75 (by decide) ?_
        refine V_selF (c := x21 < x18) (a := 0) hc25 ?_
        exact k38
def L_X10_settle_33 (F : Nat) (x1 : Int32) (x2 : Int32) (k142 : Wd → Int32 → Int32 → Option (Int32 × Wd)) : Nat → Wd → Int32 → Int32 → Int32 → Option (Int32 × Wd)
  | 0, _, _, _, _ => none
  | n + 1, w, x8, x9, x10 => (if x10 < 0 then k142 w x8 x9 else lt (maxI 0 (x1 - x10) : Int32) (fun x14 => L_X10_settle_60 F x1 x2 x9 x10 x14 x8 (fun w x22 x23 => lt (x10 + (-1) : Int32) (fun x39 => L_X10_settle_33 F x1 x2 k142 n w x22 x23 x39)) F w ((-1)) 0 0))
set_option maxRecDepth 100000 in
set_option maxHeartbeats 4000000 in
theorem sL_X10_settle_33 {X : Cx} {S : Sx} {r : Int32 × Wd} {F : Nat} {x1 : Int32} {x2 : Int32} {k142 : Wd → Int32 → Int32 → Option (Int32 × Wd)} (hX : Ok X S cX10_settle RX10 13 rm_X10_settle) (hR : HRt X S cX10_settle .int r)  (hk142 : ∀ (w : Wd) (x11 : Int32) (x12 : Int32) , k142 w x11 x12 = some r → V X S w 142 [(0, rf S 0), (3, .int x11), (4, .int x12)] []) : ∀ (n : Nat) (w : Wd) (x8 : Int32) (x9 : Int32) (x10 : Int32) , L_X10_settle_33 F x1 x2 k142 n w x8 x9 x10 = some r → V X S w 33 [(0, rf S 0), (1, .int x1), (3, .int x8), (4, .int x9), (5, .int x10), (2, .int x2)] [] := by
  intro n
  induction n with
  | zero =>
    intro w x8 x9 x10  hP
    exact nn hP
  | succ n ih =>
    intro w x8 x9 x10  hP
    rw [L_X10_settle_33] at hP
    refine V_iload hX dX10_settle_33 4 rfl ?_
    refine V_if_lt (tgt := 142) hX dX10_settle_35 (by decide) (fun hc13 => ?_) (fun hc13 => ?_)
    · replace hP := ite_t hc13 hP
      refine V_sub (lv' := [(0, rf S 0), (3, .int x8), (4, .int x9)]) [0, 2, 3] rfl ?_
      exact hk142 _ _ _  hP
    · replace hP := ite_f hc13 hP
      refine V_iconst (v := 0) hX dX10_settle_38 (by decide) ?_
      refine V_iload_n hX dX10_settle_39 1 rfl ?_
      refine V_iload hX dX10_settle_40 4 rfl ?_
      refine V_isub hX dX10_settle_42 ?_
      refine V_max hX mk_X10_177 ⟨Nat.le_of_ble_eq_true rfl, Nat.le_of_ble_eq_true rfl⟩ dX10_settle_43 ?_
      refine V_topi (fun x14 ex14 => ?_)
      replace hP := lt_r ex14 hP
      refine V_istore (lv' := [(6, .int x14), (0, rf S 0), (1, .int x1), (3, .int x8), (4, .int x9), (5, .int x10), (2, .int x2)]) hX dX10_settle_46 (by decide) rfl ?_
      refine V_iload_n hX dX10_settle_48 3 rfl ?_
      refine V_istore (lv' := [(7, .int x8), (6, .int x14), (0, rf S 0), (1, .int x1), (3, .int x8), (4, .int x9), (5, .int x10), (2, .int x2)]) hX dX10_settle_49 (by decide) rfl ?_
      refine V_iconst (v := (-1)) hX dX10_settle_51 (by decide) ?_
      refine V_istore (lv' := [(8, .int ((-1))), (7, .int x8), (6, .int x14), (0, rf S 0), (1, .int x1), (3, .int x8), (4, .int x9), (5, .int x10), (2, .int x2)]) hX dX10_settle_52 (by decide) rfl ?_
      refine V_iconst (v := 0) hX dX10_settle_54 (by decide) ?_
      refine V_istore (lv' := [(9, .int 0), (8, .int ((-1))), (7, .int x8), (6, .int x14), (0, rf S 0), (1, .int x1), (3, .int x8), (4, .int x9), (5, .int x10), (2, .int x2)]) hX dX10_settle_55 (by decide) rfl ?_
      refine V_iconst (v := 0) hX dX10_settle_57 (by decide) ?_
      refine V_istore (lv' := [(10, .int 0), (9, .int 0), (8, .int ((-1))), (7, .int x8), (6, .int x14), (0, rf S 0), (1, .int x1), (3, .int x8), (4, .int x9), (5, .int x10), (2, .int x2)]) hX dX10_settle_58 (by decide) rfl ?_
      refine V_sub (lv' := [(0, rf S 0), (1, .int x1), (2, .int x2), (4, .int x9), (5, .int x10), (6, .int x14), (7, .int x8), (8, .int ((-1))), (9, .int 0), (10, .int 0)]) [5, 6, 10, 8, 9, 4, 3, 2, 1, 0] rfl ?_
      have k40 : ∀ (w : Wd) (x22 : Int32) (x23 : Int32) , (lt (x10 + (-1) : Int32) (fun x39 => L_X10_settle_33 F x1 x2 k142 n w x22 x23 x39)) = some r → V X S w 129 [(0, rf S 0), (1, .int x1), (2, .int x2), (5, .int x10), (8, .int x22), (9, .int x23)] [] := by
        intro w x22 x23  hP
        refine V_iload hX dX10_settle_129 4 rfl ?_
        refine V_istore_n (lv' := [(3, .int x22), (0, rf S 0), (1, .int x1), (2, .int x2), (5, .int x10), (8, .int x22), (9, .int x23)]) hX dX10_settle_131 (by decide) rfl ?_
        refine V_iload hX dX10_settle_132 6 rfl ?_
        refine V_istore (lv' := [(4, .int x23), (3, .int x22), (0, rf S 0), (1, .int x1), (2, .int x2), (5, .int x10), (8, .int x22), (9, .int x23)]) hX dX10_settle_134 (by decide) rfl ?_
        obtain ⟨x39, ex39⟩ : ∃ y : Int32, y = x10 + (-1) := ⟨_, rfl⟩
        replace hP := lt_r ex39 hP
        refine V_iinc (v := x39) (lv' := [(5, .int x39), (4, .int x23), (3, .int x22), (0, rf S 0), (1, .int x1), (2, .int x2), (8, .int x22), (9, .int x23)]) hX dX10_settle_136 (j := 5) rfl (by decide) (by rw [ex39]; rfl) rfl ?_
        refine V_goto (tgt := 33) hX dX10_settle_139 (by decide) ?_
        refine V_sub (lv' := [(0, rf S 0), (1, .int x1), (3, .int x22), (4, .int x23), (5, .int x39), (2, .int x2)]) [3, 4, 2, 1, 0, 5] rfl ?_
        exact ih _ _ _ _  hP
      exact sL_X10_settle_60 hX hR  k40 F _ _ _ _  hP
def P_X10_settle (F : Nat) (w : Wd) (x1 : Int32) (x2 : Int32) : Option (Int32 × Wd) := (if x1 < 0 then some ((-1), w) else (if (20 : Int32) < x1 then some ((-1), w) else (if x2 < 1 then some ((-1), w) else (if x2 ≤ 20 then lt (x2 - 1 : Int32) (fun x7 => L_X10_settle_33 F x1 x2 (fun w x11 x12 => bnv (P_X10_tell F w (Int32.toInt64 x12)) (fun w41 => some (x11, w41))) F w 0 0 x7) else some ((-1), w)))))
set_option maxRecDepth 100000 in
set_option maxHeartbeats 4000000 in
theorem s_X10_settle {X : Cx} {S : Sx} {r : Int32 × Wd} {F : Nat} {w : Wd} {x1 : Int32} {x2 : Int32}  (hX : Ok X S cX10_settle RX10 13 rm_X10_settle) (hR : HRt X S cX10_settle .int r) (hP : P_X10_settle F w x1 x2 = some r) : V X S w 0 [(0, rf S 0), (1, .int x1), (2, .int x2)] [] := by
  unfold P_X10_settle at hP
  refine V_iload_n hX dX10_settle_0 1 rfl ?_
  refine V_if_lt (tgt := 21) hX dX10_settle_1 (by decide) (fun hc3 => ?_) (fun hc3 => ?_)
  · replace hP := ite_t hc3 hP
    refine V_iconst (v := (-1)) hX dX10_settle_21 (by decide) ?_
    exact hR _ _ _ _ (Option.some.inj hP) rfl dX10_settle_22
  · replace hP := ite_f hc3 hP
    refine V_iload_n hX dX10_settle_4 1 rfl ?_
    refine V_bipush (v := 20) hX dX10_settle_5 (by decide) ?_
    refine V_icmp_gt (tgt := 21) hX dX10_settle_7 (by decide) (fun hc4 => ?_) (fun hc4 => ?_)
    · replace hP := ite_t hc4 hP
      refine V_iconst (v := (-1)) hX dX10_settle_21 (by decide) ?_
      exact hR _ _ _ _ (Option.some.inj hP) rfl dX10_settle_22
    · replace hP := ite_f hc4 hP
      refine V_iload_n hX dX10_settle_10 2 rfl ?_
      refine V_iconst (v := 1) hX dX10_settle_11 (by decide) ?_
      refine V_icmp_lt (tgt := 21) hX dX10_settle_12 (by decide) (fun hc5 => ?_) (fun hc5 => ?_)
      · replace hP := ite_t hc5 hP
        refine V_iconst (v := (-1)) hX dX10_settle_21 (by decide) ?_
        exact hR _ _ _ _ (Option.some.inj hP) rfl dX10_settle_22
      · replace hP := ite_f hc5 hP
        refine V_iload_n hX dX10_settle_15 2 rfl ?_
        refine V_bipush (v := 20) hX dX10_settle_16 (by decide) ?_
        refine V_icmp_le (tgt := 23) hX dX10_settle_18 (by decide) (fun hc6 => ?_) (fun hc6 => ?_)
        · replace hP := ite_t hc6 hP
          refine V_iconst (v := 0) hX dX10_settle_23 (by decide) ?_
          refine V_istore_n (lv' := [(3, .int 0), (0, rf S 0), (1, .int x1), (2, .int x2)]) hX dX10_settle_24 (by decide) rfl ?_
          refine V_iconst (v := 0) hX dX10_settle_25 (by decide) ?_
          refine V_istore (lv' := [(4, .int 0), (3, .int 0), (0, rf S 0), (1, .int x1), (2, .int x2)]) hX dX10_settle_26 (by decide) rfl ?_
          refine V_iload_n hX dX10_settle_28 4 rfl ?_
          refine V_iconst (v := 1) hX dX10_settle_29 (by decide) ?_
          refine V_isub hX dX10_settle_30 ?_
          refine V_topi (fun x7 ex7 => ?_)
          replace hP := lt_r ex7 hP
          refine V_istore (lv' := [(5, .int x7), (4, .int 0), (3, .int 0), (0, rf S 0), (1, .int x1), (2, .int x2)]) hX dX10_settle_31 (by decide) rfl ?_
          refine V_sub (lv' := [(0, rf S 0), (1, .int x1), (3, .int 0), (4, .int 0), (5, .int x7), (2, .int x2)]) [3, 4, 2, 1, 0, 5] rfl ?_
          have k42 : ∀ (w : Wd) (x11 : Int32) (x12 : Int32) , (bnv (P_X10_tell F w (Int32.toInt64 x12)) (fun w41 => some (x11, w41))) = some r → V X S w 142 [(0, rf S 0), (3, .int x11), (4, .int x12)] [] := by
            intro w x11 x12  hP
            refine V_aload_n hX dX10_settle_142 0 rfl ?_
            refine V_iload hX dX10_settle_143 2 rfl ?_
            refine V_i2l hX dX10_settle_145 ?_
            obtain ⟨w41, hcw41, hP⟩ := bnv_e hP
            refine V_callVv (As := [.long (Int32.toInt64 x12)]) (rest := []) hX mk_X10_263 nk_X10_tell (fun l => c_X10_tell l S  hcw41) tb_0 rfl ⟨rfl, rfl, Nat.le_of_ble_eq_true rfl, Nat.le_of_ble_eq_true rfl⟩ rfl rfl (Nat.le_of_ble_eq_true rfl) dX10_settle_146 ?_
            refine V_iload_n hX dX10_settle_149 1 rfl ?_
            exact hR _ _ _ _ (Option.some.inj hP) rfl dX10_settle_150
          exact sL_X10_settle_33 hX hR  k42 F _ _ _ _  hP
        · replace hP := ite_f hc6 hP
          refine V_iconst (v := (-1)) hX dX10_settle_21 (by decide) ?_
          exact hR _ _ _ _ (Option.some.inj hP) rfl dX10_settle_22
theorem c_X10_settle (l : Launch) (S : Sx) {r : Int32 × Wd} {F : Nat} {w : Wd} {x1 : Int32} {x2 : Int32}  (h : P_X10_settle F w x1 x2 = some r) : Met l yX10_settle (wsg yX10_settle cX10_settle 13 (some .int)) rm_X10_settle (PC S w [rf S 0, .int x1, .int x2]) (QCi S r) 0 0 (Aw S) :=
  met_i (by decide) rfl (Nat.le_of_ble_eq_true rfl) ⟨rfl, rfl⟩ (fun X hX hR => s_X10_settle  hX hR h)

-- MustNotStop.outcome(III)I
abbrev rm_X10_outcome : Room := { frames := 1, cells := 0, slots := 0, locals := 64 }
theorem nk_X10_outcome : MNk yX10_outcome RX10 3 := ⟨rfl, by decide, by decide, by decide +kernel⟩
def P_X10_outcome (F : Nat) (w : Wd) (x1 : Int32) (x2 : Int32) (x3 : Int32) : Option (Int32 × Wd) := (if x2 ≤ x3 then (if x3 ≤ x2 then some ((x1 / 2) - x2, w) else some (-x2, w)) else some (x1 - x3, w))
set_option maxRecDepth 100000 in
set_option maxHeartbeats 4000000 in
theorem s_X10_outcome {X : Cx} {S : Sx} {r : Int32 × Wd} {F : Nat} {w : Wd} {x1 : Int32} {x2 : Int32} {x3 : Int32}  (hX : Ok X S cX10_outcome RX10 3 rm_X10_outcome) (hR : HRt X S cX10_outcome .int r) (hP : P_X10_outcome F w x1 x2 x3 = some r) : V X S w 0 [(0, .int x1), (1, .int x2), (2, .int x3)] [] := by
  unfold P_X10_outcome at hP
  refine V_iload_n hX dX10_outcome_0 1 rfl ?_
  refine V_iload_n hX dX10_outcome_1 2 rfl ?_
  refine V_icmp_le (tgt := 9) hX dX10_outcome_2 (by decide) (fun hc4 => ?_) (fun hc4 => ?_)
  · replace hP := ite_t hc4 hP
    refine V_iload_n hX dX10_outcome_9 1 rfl ?_
    refine V_iload_n hX dX10_outcome_10 2 rfl ?_
    refine V_icmp_ge (tgt := 19) hX dX10_outcome_11 (by decide) (fun hc5 => ?_) (fun hc5 => ?_)
    · replace hP := ite_t hc5 hP
      refine V_iload_n hX dX10_outcome_19 0 rfl ?_
      refine V_iconst (v := 2) hX dX10_outcome_20 (by decide) ?_
      refine V_idiv hX dX10_outcome_21 (by decide) ?_
      refine V_iload_n hX dX10_outcome_22 1 rfl ?_
      refine V_isub hX dX10_outcome_23 ?_
      exact hR _ _ _ _ (Option.some.inj hP) rfl dX10_outcome_24
    · replace hP := ite_f hc5 hP
      refine V_iload_n hX dX10_outcome_14 1 rfl ?_
      refine V_ineg hX dX10_outcome_15 ?_
      refine V_goto (tgt := 24) hX dX10_outcome_16 (by decide) ?_
      exact hR _ _ _ _ (Option.some.inj hP) rfl dX10_outcome_24
  · replace hP := ite_f hc4 hP
    refine V_iload_n hX dX10_outcome_5 0 rfl ?_
    refine V_iload_n hX dX10_outcome_6 2 rfl ?_
    refine V_isub hX dX10_outcome_7 ?_
    exact hR _ _ _ _ (Option.some.inj hP) rfl dX10_outcome_8
theorem c_X10_outcome (l : Launch) (S : Sx) {r : Int32 × Wd} {F : Nat} {w : Wd} {x1 : Int32} {x2 : Int32} {x3 : Int32}  (h : P_X10_outcome F w x1 x2 x3 = some r) : Met l yX10_outcome (wsg yX10_outcome cX10_outcome 3 (some .int)) rm_X10_outcome (PC S w [.int x1, .int x2, .int x3]) (QCi S r) 0 0 (Aw S) :=
  met_i (by decide) rfl (Nat.le_of_ble_eq_true rfl) ⟨rfl, rfl⟩ (fun X hX hR => s_X10_outcome  hX hR h)

-- MustNotStop.bestReply(III)Z
abbrev rm_X10_bestReply : Room := { frames := 2, cells := 0, slots := 0, locals := 86 }
theorem nk_X10_bestReply : MNk yX10_bestReply RX10 3 := ⟨rfl, by decide, by decide, by decide +kernel⟩
def L_X10_bestReply_2 (F : Nat) (x1 : Int32) (x2 : Int32) (x3 : Int32) (k31 : Wd → Option (Int32 × Wd)) : Nat → Wd → Int32 → Option (Int32 × Wd)
  | 0, _, _ => none
  | n + 1, w, x4 => (if (9 : Int32) < x4 then k31 w  else bnd (P_X10_outcome F w x1 x4 x3) (fun x7 w6 => bnd (P_X10_outcome F w6 x1 x2 x3) (fun x9 w8 => (if x7 ≤ x9 then lt (x4 + 1 : Int32) (fun x11 => L_X10_bestReply_2 F x1 x2 x3 k31 n w8 x11) else some (0, w8)))))
set_option maxRecDepth 100000 in
set_option maxHeartbeats 4000000 in
theorem sL_X10_bestReply_2 {X : Cx} {S : Sx} {r : Int32 × Wd} {F : Nat} {x1 : Int32} {x2 : Int32} {x3 : Int32} {k31 : Wd → Option (Int32 × Wd)} (hX : Ok X S cX10_bestReply RX10 4 rm_X10_bestReply) (hR : HRt X S cX10_bestReply .boolean r)  (hk31 : ∀ (w : Wd), k31 w = some r → V X S w 31 [] []) : ∀ (n : Nat) (w : Wd) (x4 : Int32) , L_X10_bestReply_2 F x1 x2 x3 k31 n w x4 = some r → V X S w 2 [(0, .int x1), (1, .int x2), (2, .int x3), (3, .int x4)] [] := by
  intro n
  induction n with
  | zero =>
    intro w x4  hP
    exact nn hP
  | succ n ih =>
    intro w x4  hP
    rw [L_X10_bestReply_2] at hP
    refine V_iload_n hX dX10_bestReply_2 3 rfl ?_
    refine V_bipush (v := 9) hX dX10_bestReply_3 (by decide) ?_
    refine V_icmp_gt (tgt := 31) hX dX10_bestReply_5 (by decide) (fun hc5 => ?_) (fun hc5 => ?_)
    · replace hP := ite_t hc5 hP
      refine V_sub (lv' := []) [] rfl ?_
      exact hk31 _   hP
    · replace hP := ite_f hc5 hP
      refine V_iload_n hX dX10_bestReply_8 0 rfl ?_
      refine V_iload_n hX dX10_bestReply_9 3 rfl ?_
      refine V_iload_n hX dX10_bestReply_10 2 rfl ?_
      obtain ⟨x7, w6, hcw6, hP⟩ := bnd_e hP
      refine V_callSi (As := [.int x1, .int x4, .int x3]) (rest := []) hX mk_X10_350 nk_X10_outcome (fun l => c_X10_outcome l S  hcw6) ⟨rfl, rfl, Nat.le_of_ble_eq_true rfl, Nat.le_of_ble_eq_true rfl⟩ rfl rfl (Nat.le_of_ble_eq_true rfl) dX10_bestReply_11 ?_
      refine V_iload_n hX dX10_bestReply_14 0 rfl ?_
      refine V_iload_n hX dX10_bestReply_15 1 rfl ?_
      refine V_iload_n hX dX10_bestReply_16 2 rfl ?_
      obtain ⟨x9, w8, hcw8, hP⟩ := bnd_e hP
      refine V_callSi (As := [.int x1, .int x2, .int x3]) (rest := [.int x7]) hX mk_X10_350 nk_X10_outcome (fun l => c_X10_outcome l S  hcw8) ⟨rfl, rfl, Nat.le_of_ble_eq_true rfl, Nat.le_of_ble_eq_true rfl⟩ rfl rfl (Nat.le_of_ble_eq_true rfl) dX10_bestReply_17 ?_
      refine V_icmp_le (tgt := 25) hX dX10_bestReply_20 (by decide) (fun hc10 => ?_) (fun hc10 => ?_)
      · replace hP := ite_t hc10 hP
        obtain ⟨x11, ex11⟩ : ∃ y : Int32, y = x4 + 1 := ⟨_, rfl⟩
        replace hP := lt_r ex11 hP
        refine V_iinc (v := x11) (lv' := [(3, .int x11), (0, .int x1), (1, .int x2), (2, .int x3)]) hX dX10_bestReply_25 (j := 3) rfl (by decide) (by rw [ex11]; rfl) rfl ?_
        refine V_goto (tgt := 2) hX dX10_bestReply_28 (by decide) ?_
        refine V_sub (lv' := [(0, .int x1), (1, .int x2), (2, .int x3), (3, .int x11)]) [1, 2, 3, 0] rfl ?_
        exact ih _ _  hP
      · replace hP := ite_f hc10 hP
        refine V_iconst (v := 0) hX dX10_bestReply_23 (by decide) ?_
        exact hR _ _ _ _ (Option.some.inj hP) rfl dX10_bestReply_24
def P_X10_bestReply (F : Nat) (w : Wd) (x1 : Int32) (x2 : Int32) (x3 : Int32) : Option (Int32 × Wd) := L_X10_bestReply_2 F x1 x2 x3 (fun w  => some (1, w)) F w 0
set_option maxRecDepth 100000 in
set_option maxHeartbeats 4000000 in
theorem s_X10_bestReply {X : Cx} {S : Sx} {r : Int32 × Wd} {F : Nat} {w : Wd} {x1 : Int32} {x2 : Int32} {x3 : Int32}  (hX : Ok X S cX10_bestReply RX10 4 rm_X10_bestReply) (hR : HRt X S cX10_bestReply .boolean r) (hP : P_X10_bestReply F w x1 x2 x3 = some r) : V X S w 0 [(0, .int x1), (1, .int x2), (2, .int x3)] [] := by
  unfold P_X10_bestReply at hP
  refine V_iconst (v := 0) hX dX10_bestReply_0 (by decide) ?_
  refine V_istore_n (lv' := [(3, .int 0), (0, .int x1), (1, .int x2), (2, .int x3)]) hX dX10_bestReply_1 (by decide) rfl ?_
  refine V_sub (lv' := [(0, .int x1), (1, .int x2), (2, .int x3), (3, .int 0)]) [1, 2, 3, 0] rfl ?_
  have k12 : ∀ (w : Wd)  , (some (1, w)) = some r → V X S w 31 [] [] := by
    intro w   hP
    refine V_iconst (v := 1) hX dX10_bestReply_31 (by decide) ?_
    exact hR _ _ _ _ (Option.some.inj hP) rfl dX10_bestReply_32
  exact sL_X10_bestReply_2 hX hR  k12 F _ _  hP
theorem c_X10_bestReply (l : Launch) (S : Sx) {r : Int32 × Wd} {F : Nat} {w : Wd} {x1 : Int32} {x2 : Int32} {x3 : Int32}  (h : P_X10_bestReply F w x1 x2 x3 = some r) : Met l yX10_bestReply (wsg yX10_bestReply cX10_bestReply 4 (some .boolean)) rm_X10_bestReply (PC S w [.int x1, .int x2, .int x3]) (QCi S r) 0 0 (Aw S) :=
  met_i (by decide) rfl (Nat.le_of_ble_eq_true rfl) ⟨rfl, rfl⟩ (fun X hX hR => s_X10_bestReply  hX hR h)

-- MustNotStop.strike(I)I
abbrev rm_X10_strike : Room := { frames := 3, cells := 0, slots := 0, locals := 110 }
theorem nk_X10_strike : MNk yX10_strike RX10 1 := ⟨rfl, by decide, by decide, by decide +kernel⟩
def K_X10_strike_75 (F : Nat) (x1 : Int32) (x9 : Int32) (k81 : Wd → Int32 → Option (Int32 × Wd)) (rc : Wd → Int32 → Int32 → Option (Int32 × Wd)) (w : Wd) (x17 : Int32) (x18 : Int32) : Option (Int32 × Wd) := lt (x18 + 1 : Int32) (fun x19 => rc w x17 x19)
set_option maxRecDepth 100000 in
set_option maxHeartbeats 4000000 in
theorem sK_X10_strike_75 {X : Cx} {S : Sx} {r : Int32 × Wd} {F : Nat} {x1 : Int32} {x9 : Int32} {k81 : Wd → Int32 → Option (Int32 × Wd)} {rc : Wd → Int32 → Int32 → Option (Int32 × Wd)} {w : Wd} {x17 : Int32} {x18 : Int32} (hX : Ok X S cX10_strike RX10 5 rm_X10_strike) (hR : HRt X S cX10_strike .int r)  (hk81 : ∀ (w : Wd) (x12 : Int32) , k81 w x12 = some r → V X S w 81 [(0, rf S 0), (1, .int x1), (2, .int x12), (3, .int x9)] []) (hrc : ∀ (w : Wd) (x10 : Int32) (x11 : Int32) , rc w x10 x11 = some r → V X S w 32 [(0, rf S 0), (1, .int x1), (2, .int x10), (3, .int x9), (4, .int x11)] [])  (hP : K_X10_strike_75 F x1 x9 k81 rc w x17 x18 = some r) : V X S w 75 [(0, rf S 0), (1, .int x1), (2, .int x17), (3, .int x9), (4, .int x18)] [] := by
  unfold K_X10_strike_75 at hP
  obtain ⟨x19, ex19⟩ : ∃ y : Int32, y = x18 + 1 := ⟨_, rfl⟩
  replace hP := lt_r ex19 hP
  refine V_iinc (v := x19) (lv' := [(4, .int x19), (0, rf S 0), (1, .int x1), (2, .int x17), (3, .int x9)]) hX dX10_strike_75 (j := 4) rfl (by decide) (by rw [ex19]; rfl) rfl ?_
  refine V_goto (tgt := 32) hX dX10_strike_78 (by decide) ?_
  refine V_sub (lv' := [(0, rf S 0), (1, .int x1), (2, .int x17), (3, .int x9), (4, .int x19)]) [1, 2, 3, 4, 0] rfl ?_
  exact hrc _ _ _  hP
def K_X10_strike_72 (F : Nat) (x1 : Int32) (x9 : Int32) (k81 : Wd → Int32 → Option (Int32 × Wd)) (rc : Wd → Int32 → Int32 → Option (Int32 × Wd)) (w : Wd) (x24 : Int32) (x25 : Int32) : Option (Int32 × Wd) := lt (x24 + 1 : Int32) (fun x26 => K_X10_strike_75 F x1 x9 k81 rc w x26 x25)
set_option maxRecDepth 100000 in
set_option maxHeartbeats 4000000 in
theorem sK_X10_strike_72 {X : Cx} {S : Sx} {r : Int32 × Wd} {F : Nat} {x1 : Int32} {x9 : Int32} {k81 : Wd → Int32 → Option (Int32 × Wd)} {rc : Wd → Int32 → Int32 → Option (Int32 × Wd)} {w : Wd} {x24 : Int32} {x25 : Int32} (hX : Ok X S cX10_strike RX10 5 rm_X10_strike) (hR : HRt X S cX10_strike .int r)  (hk81 : ∀ (w : Wd) (x12 : Int32) , k81 w x12 = some r → V X S w 81 [(0, rf S 0), (1, .int x1), (2, .int x12), (3, .int x9)] []) (hrc : ∀ (w : Wd) (x10 : Int32) (x11 : Int32) , rc w x10 x11 = some r → V X S w 32 [(0, rf S 0), (1, .int x1), (2, .int x10), (3, .int x9), (4, .int x11)] [])  (hP : K_X10_strike_72 F x1 x9 k81 rc w x24 x25 = some r) : V X S w 72 [(0, rf S 0), (1, .int x1), (2, .int x24), (3, .int x9), (4, .int x25)] [] := by
  unfold K_X10_strike_72 at hP
  obtain ⟨x26, ex26⟩ : ∃ y : Int32, y = x24 + 1 := ⟨_, rfl⟩
  replace hP := lt_r ex26 hP
  refine V_iinc (v := x26) (lv' := [(2, .int x26), (0, rf S 0), (1, .int x1), (3, .int x9), (4, .int x25)]) hX dX10_strike_72 (j := 2) rfl (by decide) (by rw [ex26]; rfl) rfl ?_
  refine V_sub (lv' := [(0, rf S 0), (1, .int x1), (2, .int x26), (3, .int x9), (4, .int x25)]) [1, 2, 0, 3, 4] rfl ?_
  exact sK_X10_strike_75 hX hR  hk81 hrc  hP
def L_X10_strike_32 (F : Nat) (x1 : Int32) (x9 : Int32) (k81 : Wd → Int32 → Option (Int32 × Wd)) : Nat → Wd → Int32 → Int32 → Option (Int32 × Wd)
  | 0, _, _, _ => none
  | n + 1, w, x10, x11 => (if (9 : Int32) < x11 then k81 w x10 else bnd (P_X10_bestReply F w x1 x9 x11) (fun x15 w14 => (if x15 = 0 then K_X10_strike_75 F x1 x9 k81 ((L_X10_strike_32 F x1 x9 k81 n)) w14 x10 x11 else bnd (P_X10_bestReply F w14 x1 x11 x9) (fun x21 w20 => (if x21 = 0 then K_X10_strike_75 F x1 x9 k81 ((L_X10_strike_32 F x1 x9 k81 n)) w20 x10 x11 else (if x10 = 0 then bnv (P_X10_tell_ F w20 (Int32.toInt64 x9) (Int32.toInt64 x11)) (fun w27 => K_X10_strike_72 F x1 x9 k81 ((L_X10_strike_32 F x1 x9 k81 n)) w27 x10 x11) else K_X10_strike_72 F x1 x9 k81 ((L_X10_strike_32 F x1 x9 k81 n)) w20 x10 x11))))))
set_option maxRecDepth 100000 in
set_option maxHeartbeats 4000000 in
theorem sL_X10_strike_32 {X : Cx} {S : Sx} {r : Int32 × Wd} {F : Nat} {x1 : Int32} {x9 : Int32} {k81 : Wd → Int32 → Option (Int32 × Wd)} (hX : Ok X S cX10_strike RX10 5 rm_X10_strike) (hR : HRt X S cX10_strike .int r)  (hk81 : ∀ (w : Wd) (x12 : Int32) , k81 w x12 = some r → V X S w 81 [(0, rf S 0), (1, .int x1), (2, .int x12), (3, .int x9)] []) : ∀ (n : Nat) (w : Wd) (x10 : Int32) (x11 : Int32) , L_X10_strike_32 F x1 x9 k81 n w x10 x11 = some r → V X S w 32 [(0, rf S 0), (1, .int x1), (2, .int x10), (3, .int x9), (4, .int x11)] [] := by
  intro n
  induction n with
  | zero =>
    intro w x10 x11  hP
    exact nn hP
  | succ n ih =>
    intro w x10 x11  hP
    rw [L_X10_strike_32] at hP
    refine V_iload hX dX10_strike_32 4 rfl ?_
    refine V_bipush (v := 9) hX dX10_strike_34 (by decide) ?_
    refine V_icmp_gt (tgt := 81) hX dX10_strike_36 (by decide) (fun hc13 => ?_) (fun hc13 => ?_)
    · replace hP := ite_t hc13 hP
      refine V_sub (lv' := [(0, rf S 0), (1, .int x1), (2, .int x10), (3, .int x9)]) [0, 1, 2, 3] rfl ?_
      exact hk81 _ _  hP
    · replace hP := ite_f hc13 hP
      refine V_iload_n hX dX10_strike_39 1 rfl ?_
      refine V_iload_n hX dX10_strike_40 3 rfl ?_
      refine V_iload hX dX10_strike_41 4 rfl ?_
      obtain ⟨x15, w14, hcw14, hP⟩ := bnd_e hP
      refine V_callSi (As := [.int x1, .int x9, .int x11]) (rest := []) hX mk_X10_346 nk_X10_bestReply (fun l => c_X10_bestReply l S  hcw14) ⟨rfl, rfl, Nat.le_of_ble_eq_true rfl, Nat.le_of_ble_eq_true rfl⟩ rfl rfl (Nat.le_of_ble_eq_true rfl) dX10_strike_43 ?_
      refine V_if_eq (tgt := 75) hX dX10_strike_46 (by decide) (fun hc16 => ?_) (fun hc16 => ?_)
      · replace hP := ite_t hc16 hP
        exact sK_X10_strike_75 hX hR  hk81 ih  hP
      · replace hP := ite_f hc16 hP
        refine V_iload_n hX dX10_strike_49 1 rfl ?_
        refine V_iload hX dX10_strike_50 4 rfl ?_
        refine V_iload_n hX dX10_strike_52 3 rfl ?_
        obtain ⟨x21, w20, hcw20, hP⟩ := bnd_e hP
        refine V_callSi (As := [.int x1, .int x11, .int x9]) (rest := []) hX mk_X10_346 nk_X10_bestReply (fun l => c_X10_bestReply l S  hcw20) ⟨rfl, rfl, Nat.le_of_ble_eq_true rfl, Nat.le_of_ble_eq_true rfl⟩ rfl rfl (Nat.le_of_ble_eq_true rfl) dX10_strike_53 ?_
        refine V_if_eq (tgt := 75) hX dX10_strike_56 (by decide) (fun hc22 => ?_) (fun hc22 => ?_)
        · replace hP := ite_t hc22 hP
          exact sK_X10_strike_75 hX hR  hk81 ih  hP
        · replace hP := ite_f hc22 hP
          refine V_iload_n hX dX10_strike_59 2 rfl ?_
          refine V_if_ne (tgt := 72) hX dX10_strike_60 (by decide) (fun hc23 => ?_) (fun hc23 => ?_)
          · replace hP := ite_f hc23 hP
            exact sK_X10_strike_72 hX hR  hk81 ih  hP
          · replace hP := ite_t hc23 hP
            refine V_aload_n hX dX10_strike_63 0 rfl ?_
            refine V_iload_n hX dX10_strike_64 3 rfl ?_
            refine V_i2l hX dX10_strike_65 ?_
            refine V_iload hX dX10_strike_66 4 rfl ?_
            refine V_i2l hX dX10_strike_68 ?_
            obtain ⟨w27, hcw27, hP⟩ := bnv_e hP
            refine V_callVv (As := [.long (Int32.toInt64 x9), .long (Int32.toInt64 x11)]) (rest := []) hX mk_X10_202 nk_X10_tell_ (fun l => c_X10_tell_ l S  hcw27) tb_0 rfl ⟨rfl, rfl, Nat.le_of_ble_eq_true rfl, Nat.le_of_ble_eq_true rfl⟩ rfl rfl (Nat.le_of_ble_eq_true rfl) dX10_strike_69 ?_
            exact sK_X10_strike_72 hX hR  hk81 ih  hP
def L_X10_strike_23 (F : Nat) (x1 : Int32) (k87 : Wd → Int32 → Option (Int32 × Wd)) : Nat → Wd → Int32 → Int32 → Option (Int32 × Wd)
  | 0, _, _, _ => none
  | n + 1, w, x5, x6 => (if (9 : Int32) < x6 then k87 w x5 else L_X10_strike_32 F x1 x6 (fun w x12 => lt (x6 + 1 : Int32) (fun x28 => L_X10_strike_23 F x1 k87 n w x12 x28)) F w x5 0)
set_option maxRecDepth 100000 in
set_option maxHeartbeats 4000000 in
theorem sL_X10_strike_23 {X : Cx} {S : Sx} {r : Int32 × Wd} {F : Nat} {x1 : Int32} {k87 : Wd → Int32 → Option (Int32 × Wd)} (hX : Ok X S cX10_strike RX10 5 rm_X10_strike) (hR : HRt X S cX10_strike .int r)  (hk87 : ∀ (w : Wd) (x7 : Int32) , k87 w x7 = some r → V X S w 87 [(2, .int x7)] []) : ∀ (n : Nat) (w : Wd) (x5 : Int32) (x6 : Int32) , L_X10_strike_23 F x1 k87 n w x5 x6 = some r → V X S w 23 [(0, rf S 0), (1, .int x1), (2, .int x5), (3, .int x6)] [] := by
  intro n
  induction n with
  | zero =>
    intro w x5 x6  hP
    exact nn hP
  | succ n ih =>
    intro w x5 x6  hP
    rw [L_X10_strike_23] at hP
    refine V_iload_n hX dX10_strike_23 3 rfl ?_
    refine V_bipush (v := 9) hX dX10_strike_24 (by decide) ?_
    refine V_icmp_gt (tgt := 87) hX dX10_strike_26 (by decide) (fun hc8 => ?_) (fun hc8 => ?_)
    · replace hP := ite_t hc8 hP
      refine V_sub (lv' := [(2, .int x5)]) [2] rfl ?_
      exact hk87 _ _  hP
    · replace hP := ite_f hc8 hP
      refine V_iconst (v := 0) hX dX10_strike_29 (by decide) ?_
      refine V_istore (lv' := [(4, .int 0), (0, rf S 0), (1, .int x1), (2, .int x5), (3, .int x6)]) hX dX10_strike_30 (by decide) rfl ?_
      refine V_sub (lv' := [(0, rf S 0), (1, .int x1), (2, .int x5), (3, .int x6), (4, .int 0)]) [1, 2, 3, 4, 0] rfl ?_
      have k29 : ∀ (w : Wd) (x12 : Int32) , (lt (x6 + 1 : Int32) (fun x28 => L_X10_strike_23 F x1 k87 n w x12 x28)) = some r → V X S w 81 [(0, rf S 0), (1, .int x1), (2, .int x12), (3, .int x6)] [] := by
        intro w x12  hP
        obtain ⟨x28, ex28⟩ : ∃ y : Int32, y = x6 + 1 := ⟨_, rfl⟩
        replace hP := lt_r ex28 hP
        refine V_iinc (v := x28) (lv' := [(3, .int x28), (0, rf S 0), (1, .int x1), (2, .int x12)]) hX dX10_strike_81 (j := 3) rfl (by decide) (by rw [ex28]; rfl) rfl ?_
        refine V_goto (tgt := 23) hX dX10_strike_84 (by decide) ?_
        refine V_sub (lv' := [(0, rf S 0), (1, .int x1), (2, .int x12), (3, .int x28)]) [1, 2, 3, 0] rfl ?_
        exact ih _ _ _  hP
      exact sL_X10_strike_32 hX hR  k29 F _ _ _  hP
def P_X10_strike (F : Nat) (w : Wd) (x1 : Int32) : Option (Int32 × Wd) := (if x1 < 0 then some ((-1), w) else (if x1 ≤ 99 then bnv (P_X7_clear F w ) (fun w4 => L_X10_strike_23 F x1 (fun w x7 => some (x7, w)) F w4 0 0) else some ((-1), w)))
set_option maxRecDepth 100000 in
set_option maxHeartbeats 4000000 in
theorem s_X10_strike {X : Cx} {S : Sx} {r : Int32 × Wd} {F : Nat} {w : Wd} {x1 : Int32}  (hX : Ok X S cX10_strike RX10 5 rm_X10_strike) (hR : HRt X S cX10_strike .int r) (hP : P_X10_strike F w x1 = some r) : V X S w 0 [(0, rf S 0), (1, .int x1)] [] := by
  unfold P_X10_strike at hP
  refine V_iload_n hX dX10_strike_0 1 rfl ?_
  refine V_if_lt (tgt := 10) hX dX10_strike_1 (by decide) (fun hc2 => ?_) (fun hc2 => ?_)
  · replace hP := ite_t hc2 hP
    refine V_iconst (v := (-1)) hX dX10_strike_10 (by decide) ?_
    exact hR _ _ _ _ (Option.some.inj hP) rfl dX10_strike_11
  · replace hP := ite_f hc2 hP
    refine V_iload_n hX dX10_strike_4 1 rfl ?_
    refine V_bipush (v := 99) hX dX10_strike_5 (by decide) ?_
    refine V_icmp_le (tgt := 12) hX dX10_strike_7 (by decide) (fun hc3 => ?_) (fun hc3 => ?_)
    · replace hP := ite_t hc3 hP
      refine V_iconst (v := 0) hX dX10_strike_12 (by decide) ?_
      refine V_istore_n (lv' := [(2, .int 0), (0, rf S 0), (1, .int x1)]) hX dX10_strike_13 (by decide) rfl ?_
      refine V_aload_n hX dX10_strike_14 1 rfl ?_
      refine V_getF (j := 3) hX fk_X10_19 tb_0 (fun _ _ _ => rfl) dX10_strike_15 ?_
      obtain ⟨w4, hcw4, hP⟩ := bnv_e hP
      refine V_callVv (As := []) (rest := []) hX mk_X10_289 nk_X7_clear (fun l => c_X7_clear l S  hcw4) tb_3 rfl ⟨rfl, rfl, Nat.le_of_ble_eq_true rfl, Nat.le_of_ble_eq_true rfl⟩ rfl rfl (Nat.le_of_ble_eq_true rfl) dX10_strike_18 ?_
      refine V_iconst (v := 0) hX dX10_strike_21 (by decide) ?_
      refine V_istore_n (lv' := [(3, .int 0), (2, .int 0), (0, rf S 0), (1, .int x1)]) hX dX10_strike_22 (by decide) rfl ?_
      refine V_sub (lv' := [(0, rf S 0), (1, .int x1), (2, .int 0), (3, .int 0)]) [2, 3, 1, 0] rfl ?_
      have k30 : ∀ (w : Wd) (x7 : Int32) , (some (x7, w)) = some r → V X S w 87 [(2, .int x7)] [] := by
        intro w x7  hP
        refine V_iload_n hX dX10_strike_87 0 rfl ?_
        exact hR _ _ _ _ (Option.some.inj hP) rfl dX10_strike_88
      exact sL_X10_strike_23 hX hR  k30 F _ _ _  hP
    · replace hP := ite_f hc3 hP
      refine V_iconst (v := (-1)) hX dX10_strike_10 (by decide) ?_
      exact hR _ _ _ _ (Option.some.inj hP) rfl dX10_strike_11
theorem c_X10_strike (l : Launch) (S : Sx) {r : Int32 × Wd} {F : Nat} {w : Wd} {x1 : Int32}  (h : P_X10_strike F w x1 = some r) : Met l yX10_strike (wsg yX10_strike cX10_strike 5 (some .int)) rm_X10_strike (PC S w [rf S 0, .int x1]) (QCi S r) 0 0 (Aw S) :=
  met_i (by decide) rfl (Nat.le_of_ble_eq_true rfl) ⟨rfl, rfl⟩ (fun X hX hR => s_X10_strike  hX hR h)

-- MustNotStop.tell(JJJ)V
abbrev rm_X10_tell__ : Room := { frames := 2, cells := 0, slots := 0, locals := 86 }
theorem nk_X10_tell__ : MNk yX10_tell__ RX10 3 := ⟨rfl, by decide, by decide, by decide +kernel⟩
def P_X10_tell__ (F : Nat) (w : Wd) (x1 : Int64) (x2 : Int64) (x3 : Int64) : Option (Wd) := bnv (P_X7_clear F w ) (fun w4 => bnv (P_X7_add F w4 x1) (fun w5 => bnv (P_X7_add F w5 x2) (fun w6 => bnv (P_X7_add F w6 x3) (fun w7 => some w7))))
set_option maxRecDepth 100000 in
set_option maxHeartbeats 4000000 in
theorem s_X10_tell__ {X : Cx} {S : Sx} {r : Wd} {F : Nat} {w : Wd} {x1 : Int64} {x2 : Int64} {x3 : Int64}  (hX : Ok X S cX10_tell__ RX10 7 rm_X10_tell__) (hR : HRv X S cX10_tell__ r) (hP : P_X10_tell__ F w x1 x2 x3 = some r) : V X S w 0 [(0, rf S 0), (1, .long x1), (3, .long x2), (5, .long x3)] [] := by
  unfold P_X10_tell__ at hP
  refine V_aload_n hX dX10_tell___0 0 rfl ?_
  refine V_getF (j := 3) hX fk_X10_19 tb_0 (fun _ _ _ => rfl) dX10_tell___1 ?_
  obtain ⟨w4, hcw4, hP⟩ := bnv_e hP
  refine V_callVv (As := []) (rest := []) hX mk_X10_289 nk_X7_clear (fun l => c_X7_clear l S  hcw4) tb_3 rfl ⟨rfl, rfl, Nat.le_of_ble_eq_true rfl, Nat.le_of_ble_eq_true rfl⟩ rfl rfl (Nat.le_of_ble_eq_true rfl) dX10_tell___4 ?_
  refine V_aload_n hX dX10_tell___7 0 rfl ?_
  refine V_getF (j := 3) hX fk_X10_19 tb_0 (fun _ _ _ => rfl) dX10_tell___8 ?_
  refine V_lload_n hX dX10_tell___11 1 rfl ?_
  obtain ⟨w5, hcw5, hP⟩ := bnv_e hP
  refine V_callVv (As := [.long x1]) (rest := []) hX mk_X10_293 nk_X7_add (fun l => c_X7_add l S  hcw5) tb_3 rfl ⟨rfl, rfl, Nat.le_of_ble_eq_true rfl, Nat.le_of_ble_eq_true rfl⟩ rfl rfl (Nat.le_of_ble_eq_true rfl) dX10_tell___12 ?_
  refine V_aload_n hX dX10_tell___15 0 rfl ?_
  refine V_getF (j := 3) hX fk_X10_19 tb_0 (fun _ _ _ => rfl) dX10_tell___16 ?_
  refine V_lload_n hX dX10_tell___19 2 rfl ?_
  obtain ⟨w6, hcw6, hP⟩ := bnv_e hP
  refine V_callVv (As := [.long x2]) (rest := []) hX mk_X10_293 nk_X7_add (fun l => c_X7_add l S  hcw6) tb_3 rfl ⟨rfl, rfl, Nat.le_of_ble_eq_true rfl, Nat.le_of_ble_eq_true rfl⟩ rfl rfl (Nat.le_of_ble_eq_true rfl) dX10_tell___20 ?_
  refine V_aload_n hX dX10_tell___23 0 rfl ?_
  refine V_getF (j := 3) hX fk_X10_19 tb_0 (fun _ _ _ => rfl) dX10_tell___24 ?_
  refine V_lload hX dX10_tell___27 3 rfl ?_
  obtain ⟨w7, hcw7, hP⟩ := bnv_e hP
  refine V_callVv (As := [.long x3]) (rest := []) hX mk_X10_293 nk_X7_add (fun l => c_X7_add l S  hcw7) tb_3 rfl ⟨rfl, rfl, Nat.le_of_ble_eq_true rfl, Nat.le_of_ble_eq_true rfl⟩ rfl rfl (Nat.le_of_ble_eq_true rfl) dX10_tell___29 ?_
  exact hR _ _ _ (Option.some.inj hP) dX10_tell___32
theorem c_X10_tell__ (l : Launch) (S : Sx) {r : Wd} {F : Nat} {w : Wd} {x1 : Int64} {x2 : Int64} {x3 : Int64}  (h : P_X10_tell__ F w x1 x2 x3 = some r) : Met l yX10_tell__ (wsg yX10_tell__ cX10_tell__ 7 none) rm_X10_tell__ (PC S w [rf S 0, .long x1, .long x2, .long x3]) (QCv S r) 0 0 (Aw S) :=
  met_v (by decide) rfl (Nat.le_of_ble_eq_true rfl) ⟨rfl, rfl⟩ (fun X hX hR => s_X10_tell__  hX hR h)
