-- MustNotStop$Tower.ring(LMustNotStop$Bell;)Z
abbrev rm_X9_ring : Room := { frames := 4, cells := 0, slots := 0, locals := 143 }
theorem nk_X9_ring : MNk yX9_ring RX9 1 := ⟨rfl, by decide, by decide, by decide +kernel⟩
def K_X9_ring_97 (F : Nat) (a1 : Nat) (a2 : Nat)  (w : Wd) (x10 : Int32) : Option (Int32 × Wd) := bnv (P_X1_workAndRest F w a2) (fun w11 => bnd (P_X5_secondsOf F w11 6 (gI w11 a2 1)) (fun x13 w12 => lt (sI w12 a2 7 ((gI w11 a2 7) + x13)) (fun w14 => lt (sI w14 a2 3 ((gI w14 a2 3) + 1)) (fun w15 => gd (isZO x10) (some (x10, w15))))))
set_option maxRecDepth 100000 in
set_option maxHeartbeats 4000000 in
theorem sK_X9_ring_97 {X : Cx} {S : Sx} {r : Int32 × Wd} {F : Nat} {a1 : Nat} {a2 : Nat}  {w : Wd} {x10 : Int32} (hX : Ok X S cX9_ring RX9 3 rm_X9_ring) (hR : HRt X S cX9_ring .boolean r) (ha1 : isX9 a1 = true) (ha2 : isX1 a2 = true)   (hP : K_X9_ring_97 F a1 a2  w x10 = some r) : V X S w 97 [(0, rf S a1), (1, rf S a2), (2, .int x10)] [] := by
  unfold K_X9_ring_97 at hP
  refine V_aload_n hX dX9_ring_97 1 rfl ?_
  obtain ⟨w11, hcw11, hP⟩ := bnv_e hP
  refine V_callVv (As := []) (rest := []) hX mk_X9_86 nk_X1_workAndRest (fun l => c_X1_workAndRest l S ha2 hcw11) (tb_X1 ha2) rfl ⟨rfl, rfl, Nat.le_of_ble_eq_true rfl, Nat.le_of_ble_eq_true rfl⟩ rfl rfl (Nat.le_of_ble_eq_true rfl) dX9_ring_98 ?_
  refine V_aload_n hX dX9_ring_101 1 rfl ?_
  refine V_dup hX dX9_ring_102 rfl ?_
  refine V_getI hX fk_X9_89 (tb_X1 ha2) (fun _ _ _ => rfl) dX9_ring_103 ?_
  refine V_aload_n hX dX9_ring_106 0 rfl ?_
  refine V_getF (j := 6) hX fk_X9_21 (tb_X9 ha1) (fun _ _ _ => rfl) dX9_ring_107 ?_
  refine V_aload_n hX dX9_ring_110 1 rfl ?_
  refine V_getI hX fk_X9_68 (tb_X1 ha2) (fun _ _ _ => rfl) dX9_ring_111 ?_
  obtain ⟨x13, w12, hcw12, hP⟩ := bnd_e hP
  refine V_callVi (As := [.int (gI w11 a2 1)]) (rest := [.int (gI w11 a2 7), rf S a2]) hX mk_X9_92 nk_X5_secondsOf (fun l => c_X5_secondsOf l S (by decide) hcw12) tb_6 rfl ⟨rfl, rfl, Nat.le_of_ble_eq_true rfl, Nat.le_of_ble_eq_true rfl⟩ rfl rfl (Nat.le_of_ble_eq_true rfl) dX9_ring_114 ?_
  refine V_iadd hX dX9_ring_117 ?_
  refine V_putI hX fw_X9_89 (tb_X1 ha2) (fun _ _ _ => ⟨Nat.le_of_ble_eq_true rfl, rfl⟩) dX9_ring_118 (fun w14 ew14 => ?_)
  replace hP := lt_r ew14 hP
  refine V_aload_n hX dX9_ring_121 1 rfl ?_
  refine V_dup hX dX9_ring_122 rfl ?_
  refine V_getI hX fk_X9_51 (tb_X1 ha2) (fun _ _ _ => rfl) dX9_ring_123 ?_
  refine V_iconst (v := 1) hX dX9_ring_126 (by decide) ?_
  refine V_iadd hX dX9_ring_127 ?_
  refine V_putI hX fw_X9_51 (tb_X1 ha2) (fun _ _ _ => ⟨Nat.le_of_ble_eq_true rfl, rfl⟩) dX9_ring_128 (fun w15 ew15 => ?_)
  replace hP := lt_r ew15 hP
  refine V_iload_n hX dX9_ring_131 2 rfl ?_
  obtain ⟨hz16, hP⟩ := gd_e hP
  exact hR _ _ _ _ (Option.some.inj hP) (nar_z hz16) dX9_ring_132
def P_X9_ring (F : Nat) (w : Wd) (a1 : Nat) (a2 : Nat) : Option (Int32 × Wd) := bnd (P_X9_volume F w a1 a2 (gI w a2 1)) (fun x4 w3 => lt (if x4 ≤ 0 then 0 else 1 : Int32) (fun x6 => (if x6 = 0 then lt (sI w3 a2 5 ((gI w3 a2 5) + 1)) (fun w8 => (if (gI w8 a2 5) = ((gI w8 a1 5) + 1) then lt (sI w8 a2 6 ((gI w8 a2 6) + 1)) (fun w17 => K_X9_ring_97 F a1 a2  w17 x6) else K_X9_ring_97 F a1 a2  w8 x6)) else lt (sI w3 a2 4 ((gI w3 a2 4) + 1)) (fun w18 => lt (sI w18 a2 5 0) (fun w19 => (if (iremI (gI w19 a2 4) 10) = 0 then lt (sI w19 a2 2 (maxI 0 ((gI w19 a2 2) - 1))) (fun w22 => K_X9_ring_97 F a1 a2  w22 x6) else K_X9_ring_97 F a1 a2  w19 x6))))))
set_option maxRecDepth 100000 in
set_option maxHeartbeats 4000000 in
theorem s_X9_ring {X : Cx} {S : Sx} {r : Int32 × Wd} {F : Nat} {w : Wd} {a1 : Nat} {a2 : Nat} (ha1 : isX9 a1 = true) (ha2 : isX1 a2 = true) (hX : Ok X S cX9_ring RX9 3 rm_X9_ring) (hR : HRt X S cX9_ring .boolean r) (hP : P_X9_ring F w a1 a2 = some r) : V X S w 0 [(0, rf S a1), (1, rf S a2)] [] := by
  unfold P_X9_ring at hP
  refine V_aload_n hX dX9_ring_0 0 rfl ?_
  refine V_aload_n hX dX9_ring_1 1 rfl ?_
  refine V_aload_n hX dX9_ring_2 1 rfl ?_
  refine V_getI hX fk_X9_68 (tb_X1 ha2) (fun _ _ _ => rfl) dX9_ring_3 ?_
  obtain ⟨x4, w3, hcw3, hP⟩ := bnd_e hP
  refine V_callVi (As := [rf S a2, .int (gI w a2 1)]) (rest := []) hX mk_X9_64 nk_X9_volume (fun l => c_X9_volume l S ha1 ha2 hcw3) (tb_X9 ha1) rfl ⟨rfl, rfl, Nat.le_of_ble_eq_true rfl, Nat.le_of_ble_eq_true rfl⟩ rfl rfl (Nat.le_of_ble_eq_true rfl) dX9_ring_6 ?_
  have k23 : V X S w3 17 [(0, rf S a1), (1, rf S a2)] [.int (if x4 ≤ 0 then 0 else 1)] := by
    refine V_topi (fun x6 ex6 => ?_)
    replace hP := lt_r ex6 hP
    refine V_istore_n (lv' := [(2, .int x6), (0, rf S a1), (1, rf S a2)]) hX dX9_ring_17 (by decide) rfl ?_
    refine V_iload_n hX dX9_ring_18 0 rfl ?_
    refine V_if_eq (tgt := 64) hX dX9_ring_19 (by decide) (fun hc7 => ?_) (fun hc7 => ?_)
    · replace hP := ite_t hc7 hP
      refine V_aload_n hX dX9_ring_64 2 rfl ?_
      refine V_dup hX dX9_ring_65 rfl ?_
      refine V_getI hX fk_X9_74 (tb_X1 ha2) (fun _ _ _ => rfl) dX9_ring_66 ?_
      refine V_iconst (v := 1) hX dX9_ring_69 (by decide) ?_
      refine V_iadd hX dX9_ring_70 ?_
      refine V_putI hX fw_X9_74 (tb_X1 ha2) (fun _ _ _ => ⟨Nat.le_of_ble_eq_true rfl, rfl⟩) dX9_ring_71 (fun w8 ew8 => ?_)
      replace hP := lt_r ew8 hP
      refine V_aload_n hX dX9_ring_74 2 rfl ?_
      refine V_getI hX fk_X9_74 (tb_X1 ha2) (fun _ _ _ => rfl) dX9_ring_75 ?_
      refine V_aload_n hX dX9_ring_78 1 rfl ?_
      refine V_getI hX fk_X9_18 (tb_X9 ha1) (fun _ _ _ => rfl) dX9_ring_79 ?_
      refine V_iconst (v := 1) hX dX9_ring_82 (by decide) ?_
      refine V_iadd hX dX9_ring_83 ?_
      refine V_icmp_ne (tgt := 97) hX dX9_ring_84 (by decide) (fun hc9 => ?_) (fun hc9 => ?_)
      · replace hP := ite_f hc9 hP
        refine V_sub (lv' := [(0, rf S a1), (1, rf S a2), (2, .int x6)]) [1, 2, 0] rfl ?_
        exact sK_X9_ring_97 hX hR ha1 ha2   hP
      · replace hP := ite_t hc9 hP
        refine V_aload_n hX dX9_ring_87 2 rfl ?_
        refine V_dup hX dX9_ring_88 rfl ?_
        refine V_getI hX fk_X9_83 (tb_X1 ha2) (fun _ _ _ => rfl) dX9_ring_89 ?_
        refine V_iconst (v := 1) hX dX9_ring_92 (by decide) ?_
        refine V_iadd hX dX9_ring_93 ?_
        refine V_putI hX fw_X9_83 (tb_X1 ha2) (fun _ _ _ => ⟨Nat.le_of_ble_eq_true rfl, rfl⟩) dX9_ring_94 (fun w17 ew17 => ?_)
        replace hP := lt_r ew17 hP
        refine V_sub (lv' := [(0, rf S a1), (1, rf S a2), (2, .int x6)]) [1, 2, 0] rfl ?_
        exact sK_X9_ring_97 hX hR ha1 ha2   hP
    · replace hP := ite_f hc7 hP
      refine V_aload_n hX dX9_ring_22 2 rfl ?_
      refine V_dup hX dX9_ring_23 rfl ?_
      refine V_getI hX fk_X9_71 (tb_X1 ha2) (fun _ _ _ => rfl) dX9_ring_24 ?_
      refine V_iconst (v := 1) hX dX9_ring_27 (by decide) ?_
      refine V_iadd hX dX9_ring_28 ?_
      refine V_putI hX fw_X9_71 (tb_X1 ha2) (fun _ _ _ => ⟨Nat.le_of_ble_eq_true rfl, rfl⟩) dX9_ring_29 (fun w18 ew18 => ?_)
      replace hP := lt_r ew18 hP
      refine V_aload_n hX dX9_ring_32 2 rfl ?_
      refine V_iconst (v := 0) hX dX9_ring_33 (by decide) ?_
      refine V_putI hX fw_X9_74 (tb_X1 ha2) (fun _ _ _ => ⟨Nat.le_of_ble_eq_true rfl, rfl⟩) dX9_ring_34 (fun w19 ew19 => ?_)
      replace hP := lt_r ew19 hP
      refine V_aload_n hX dX9_ring_37 2 rfl ?_
      refine V_getI hX fk_X9_71 (tb_X1 ha2) (fun _ _ _ => rfl) dX9_ring_38 ?_
      refine V_bipush (v := 10) hX dX9_ring_41 (by decide) ?_
      refine V_irem hX dX9_ring_43 (by decide) ?_
      refine V_if_ne (tgt := 97) hX dX9_ring_44 (by decide) (fun hc21 => ?_) (fun hc21 => ?_)
      · replace hP := ite_f hc21 hP
        refine V_sub (lv' := [(0, rf S a1), (1, rf S a2), (2, .int x6)]) [1, 2, 0] rfl ?_
        exact sK_X9_ring_97 hX hR ha1 ha2   hP
      · replace hP := ite_t hc21 hP
        refine V_aload_n hX dX9_ring_47 2 rfl ?_
        refine V_iconst (v := 0) hX dX9_ring_48 (by decide) ?_
        refine V_aload_n hX dX9_ring_49 2 rfl ?_
        refine V_getI hX fk_X9_32 (tb_X1 ha2) (fun _ _ _ => rfl) dX9_ring_50 ?_
        refine V_iconst (v := 1) hX dX9_ring_53 (by decide) ?_
        refine V_isub hX dX9_ring_54 ?_
        refine V_max hX mk_X9_77 ⟨Nat.le_of_ble_eq_true rfl, Nat.le_of_ble_eq_true rfl⟩ dX9_ring_55 ?_
        refine V_putI hX fw_X9_32 (tb_X1 ha2) (fun _ _ _ => ⟨Nat.le_of_ble_eq_true rfl, rfl⟩) dX9_ring_58 (fun w22 ew22 => ?_)
        replace hP := lt_r ew22 hP
        refine V_goto (tgt := 97) hX dX9_ring_61 (by decide) ?_
        refine V_sub (lv' := [(0, rf S a1), (1, rf S a2), (2, .int x6)]) [1, 2, 0] rfl ?_
        exact sK_X9_ring_97 hX hR ha1 ha2   hP
  refine V_if_le (tgt := 16) hX dX9_ring_9 (by decide) (fun hc5 => ?_) (fun hc5 => ?_)
  · refine V_iconst (v := 0) hX dX9_ring_16 (by decide) ?_
    refine V_selT (c := x4 ≤ 0) (b := 1) hc5 ?_
    exact k23
  · refine V_iconst (v := 1) hX dX9_ring_12 (by decide) ?_
    refine V_goto (tgt := 17) hX dX9_ring_13 (by decide) ?_
    refine V_selF (c := x4 ≤ 0) (a := 0) hc5 ?_
    exact k23
theorem c_X9_ring (l : Launch) (S : Sx) {r : Int32 × Wd} {F : Nat} {w : Wd} {a1 : Nat} {a2 : Nat} (ha1 : isX9 a1 = true) (ha2 : isX1 a2 = true) (h : P_X9_ring F w a1 a2 = some r) : Met l yX9_ring (wsg yX9_ring cX9_ring 3 (some .boolean)) rm_X9_ring (PC S w [rf S a1, rf S a2]) (QCi S r) 0 0 (Aw S) :=
  met_i (by decide) rfl (Nat.le_of_ble_eq_true rfl) ⟨rfl, rfl⟩ (fun X hX hR => s_X9_ring ha1 ha2 hX hR h)

-- MustNotStop$Tower.minute(LMustNotStop$Bell;)V
abbrev rm_X9_minute : Room := { frames := 5, cells := 0, slots := 0, locals := 165 }
theorem nk_X9_minute : MNk yX9_minute RX9 1 := ⟨rfl, by decide, by decide, by decide +kernel⟩
def P_X9_minute (F : Nat) (w : Wd) (a1 : Nat) (a2 : Nat) : Option (Wd) := bnd (P_X9_ring F w a1 a2) (fun x4 w3 => bnd (P_X5_hearing F w3 9 (gI w3 a2 5)) (fun x6 w5 => bnd (P_X5_moved F w5 9 (gI w5 a2 8)) (fun x8 w7 => lt (sI w7 a2 8 ((gI w3 a2 8) ||| (x6 ||| x8))) (fun w9 => some w9))))
set_option maxRecDepth 100000 in
set_option maxHeartbeats 4000000 in
theorem s_X9_minute {X : Cx} {S : Sx} {r : Wd} {F : Nat} {w : Wd} {a1 : Nat} {a2 : Nat} (ha1 : isX9 a1 = true) (ha2 : isX1 a2 = true) (hX : Ok X S cX9_minute RX9 2 rm_X9_minute) (hR : HRv X S cX9_minute r) (hP : P_X9_minute F w a1 a2 = some r) : V X S w 0 [(0, rf S a1), (1, rf S a2)] [] := by
  unfold P_X9_minute at hP
  refine V_aload_n hX dX9_minute_0 0 rfl ?_
  refine V_aload_n hX dX9_minute_1 1 rfl ?_
  obtain ⟨x4, w3, hcw3, hP⟩ := bnd_e hP
  refine V_callVi (As := [rf S a2]) (rest := []) hX mk_X9_95 nk_X9_ring (fun l => c_X9_ring l S ha1 ha2 hcw3) (tb_X9 ha1) rfl ⟨rfl, rfl, Nat.le_of_ble_eq_true rfl, Nat.le_of_ble_eq_true rfl⟩ rfl rfl (Nat.le_of_ble_eq_true rfl) dX9_minute_2 ?_
  refine V_pop hX dX9_minute_5 rfl ?_
  refine V_aload_n hX dX9_minute_6 1 rfl ?_
  refine V_dup hX dX9_minute_7 rfl ?_
  refine V_getI hX fk_X9_99 (tb_X1 ha2) (fun _ _ _ => rfl) dX9_minute_8 ?_
  refine V_aload_n hX dX9_minute_11 0 rfl ?_
  refine V_getF (j := 9) hX fk_X9_25 (tb_X9 ha1) (fun _ _ _ => rfl) dX9_minute_12 ?_
  refine V_aload_n hX dX9_minute_15 1 rfl ?_
  refine V_getI hX fk_X9_74 (tb_X1 ha2) (fun _ _ _ => rfl) dX9_minute_16 ?_
  obtain ⟨x6, w5, hcw5, hP⟩ := bnd_e hP
  refine V_callVi (As := [.int (gI w3 a2 5)]) (rest := [.int (gI w3 a2 8), rf S a2]) hX mk_X9_102 nk_X5_hearing (fun l => c_X5_hearing l S (by decide) hcw5) tb_9 rfl ⟨rfl, rfl, Nat.le_of_ble_eq_true rfl, Nat.le_of_ble_eq_true rfl⟩ rfl rfl (Nat.le_of_ble_eq_true rfl) dX9_minute_19 ?_
  refine V_aload_n hX dX9_minute_22 0 rfl ?_
  refine V_getF (j := 9) hX fk_X9_25 (tb_X9 ha1) (fun _ _ _ => rfl) dX9_minute_23 ?_
  refine V_aload_n hX dX9_minute_26 1 rfl ?_
  refine V_getI hX fk_X9_99 (tb_X1 ha2) (fun _ _ _ => rfl) dX9_minute_27 ?_
  obtain ⟨x8, w7, hcw7, hP⟩ := bnd_e hP
  refine V_callVi (As := [.int (gI w5 a2 8)]) (rest := [.int x6, .int (gI w3 a2 8), rf S a2]) hX mk_X9_105 nk_X5_moved (fun l => c_X5_moved l S (by decide) hcw7) tb_9 rfl ⟨rfl, rfl, Nat.le_of_ble_eq_true rfl, Nat.le_of_ble_eq_true rfl⟩ rfl rfl (Nat.le_of_ble_eq_true rfl) dX9_minute_30 ?_
  refine V_ior hX dX9_minute_33 ?_
  refine V_ior hX dX9_minute_34 ?_
  refine V_putI hX fw_X9_99 (tb_X1 ha2) (fun _ _ _ => ⟨Nat.le_of_ble_eq_true rfl, rfl⟩) dX9_minute_35 (fun w9 ew9 => ?_)
  replace hP := lt_r ew9 hP
  exact hR _ _ _ (Option.some.inj hP) dX9_minute_38
theorem c_X9_minute (l : Launch) (S : Sx) {r : Wd} {F : Nat} {w : Wd} {a1 : Nat} {a2 : Nat} (ha1 : isX9 a1 = true) (ha2 : isX1 a2 = true) (h : P_X9_minute F w a1 a2 = some r) : Met l yX9_minute (wsg yX9_minute cX9_minute 2 none) rm_X9_minute (PC S w [rf S a1, rf S a2]) (QCv S r) 0 0 (Aw S) :=
  met_v (by decide) rfl (Nat.le_of_ble_eq_true rfl) ⟨rfl, rfl⟩ (fun X hX hR => s_X9_minute ha1 ha2 hX hR h)

-- MustNotStop.sign(I)I
abbrev rm_X10_sign : Room := { frames := 2, cells := 0, slots := 0, locals := 85 }
theorem nk_X10_sign : MNk yX10_sign RX10 1 := ⟨rfl, by decide, by decide, by decide +kernel⟩
def L_X10_sign_19 (F : Nat) (x1 : Int32) (k43 : Wd → Option (Int32 × Wd)) : Nat → Wd → Int32 → Option (Int32 × Wd)
  | 0, _, _ => none
  | n + 1, w, x3 => (if x3 < 0 then k43 w  else bnv (P_X8_add F w ((iushrI x1 x3) &&& 255)) (fun w5 => lt (x3 + (-8) : Int32) (fun x6 => L_X10_sign_19 F x1 k43 n w5 x6)))
set_option maxRecDepth 100000 in
set_option maxHeartbeats 4000000 in
theorem sL_X10_sign_19 {X : Cx} {S : Sx} {r : Int32 × Wd} {F : Nat} {x1 : Int32} {k43 : Wd → Option (Int32 × Wd)} (hX : Ok X S cX10_sign RX10 3 rm_X10_sign) (hR : HRt X S cX10_sign .int r)  (hk43 : ∀ (w : Wd), k43 w = some r → V X S w 43 [(0, rf S 0)] []) : ∀ (n : Nat) (w : Wd) (x3 : Int32) , L_X10_sign_19 F x1 k43 n w x3 = some r → V X S w 19 [(0, rf S 0), (1, .int x1), (2, .int x3)] [] := by
  intro n
  induction n with
  | zero =>
    intro w x3  hP
    exact nn hP
  | succ n ih =>
    intro w x3  hP
    rw [L_X10_sign_19] at hP
    refine V_iload_n hX dX10_sign_19 2 rfl ?_
    refine V_if_lt (tgt := 43) hX dX10_sign_20 (by decide) (fun hc4 => ?_) (fun hc4 => ?_)
    · replace hP := ite_t hc4 hP
      refine V_sub (lv' := [(0, rf S 0)]) [0] rfl ?_
      exact hk43 _   hP
    · replace hP := ite_f hc4 hP
      refine V_aload_n hX dX10_sign_23 0 rfl ?_
      refine V_getF (j := 1) hX fk_X10_10 tb_0 (fun _ _ _ => rfl) dX10_sign_24 ?_
      refine V_iload_n hX dX10_sign_27 1 rfl ?_
      refine V_iload_n hX dX10_sign_28 2 rfl ?_
      refine V_iushr hX dX10_sign_29 ?_
      refine V_sipush (v := 255) hX dX10_sign_30 (by decide) ?_
      refine V_iand hX dX10_sign_33 ?_
      obtain ⟨w5, hcw5, hP⟩ := bnv_e hP
      refine V_callVv (As := [.int ((iushrI x1 x3) &&& 255)]) (rest := []) hX mk_X10_100 nk_X8_add (fun l => c_X8_add l S  hcw5) tb_1 rfl ⟨rfl, rfl, Nat.le_of_ble_eq_true rfl, Nat.le_of_ble_eq_true rfl⟩ rfl rfl (Nat.le_of_ble_eq_true rfl) dX10_sign_34 ?_
      obtain ⟨x6, ex6⟩ : ∃ y : Int32, y = x3 + (-8) := ⟨_, rfl⟩
      replace hP := lt_r ex6 hP
      refine V_iinc (v := x6) (lv' := [(2, .int x6), (0, rf S 0), (1, .int x1)]) hX dX10_sign_37 (j := 2) rfl (by decide) (by rw [ex6]; rfl) rfl ?_
      refine V_goto (tgt := 19) hX dX10_sign_40 (by decide) ?_
      refine V_sub (lv' := [(0, rf S 0), (1, .int x1), (2, .int x6)]) [1, 2, 0] rfl ?_
      exact ih _ _  hP
def P_X10_sign (F : Nat) (w : Wd) (x1 : Int32) : Option (Int32 × Wd) := (if ((gI w 1 1) + 4) ≤ 80 then L_X10_sign_19 F x1 (fun w  => some (gI w 1 1, w)) F w 24 else some ((-1), w))
set_option maxRecDepth 100000 in
set_option maxHeartbeats 4000000 in
theorem s_X10_sign {X : Cx} {S : Sx} {r : Int32 × Wd} {F : Nat} {w : Wd} {x1 : Int32}  (hX : Ok X S cX10_sign RX10 3 rm_X10_sign) (hR : HRt X S cX10_sign .int r) (hP : P_X10_sign F w x1 = some r) : V X S w 0 [(0, rf S 0), (1, .int x1)] [] := by
  unfold P_X10_sign at hP
  refine V_aload_n hX dX10_sign_0 0 rfl ?_
  refine V_getF (j := 1) hX fk_X10_10 tb_0 (fun _ _ _ => rfl) dX10_sign_1 ?_
  refine V_getI hX fk_X10_97 tb_1 (fun _ _ _ => rfl) dX10_sign_4 ?_
  refine V_iconst (v := 4) hX dX10_sign_7 (by decide) ?_
  refine V_iadd hX dX10_sign_8 ?_
  refine V_bipush (v := 80) hX dX10_sign_9 (by decide) ?_
  refine V_icmp_le (tgt := 16) hX dX10_sign_11 (by decide) (fun hc2 => ?_) (fun hc2 => ?_)
  · replace hP := ite_t hc2 hP
    refine V_bipush (v := 24) hX dX10_sign_16 (by decide) ?_
    refine V_istore_n (lv' := [(2, .int 24), (0, rf S 0), (1, .int x1)]) hX dX10_sign_18 (by decide) rfl ?_
    refine V_sub (lv' := [(0, rf S 0), (1, .int x1), (2, .int 24)]) [1, 2, 0] rfl ?_
    have k7 : ∀ (w : Wd)  , (some (gI w 1 1, w)) = some r → V X S w 43 [(0, rf S 0)] [] := by
      intro w   hP
      refine V_aload_n hX dX10_sign_43 0 rfl ?_
      refine V_getF (j := 1) hX fk_X10_10 tb_0 (fun _ _ _ => rfl) dX10_sign_44 ?_
      refine V_getI hX fk_X10_97 tb_1 (fun _ _ _ => rfl) dX10_sign_47 ?_
      exact hR _ _ _ _ (Option.some.inj hP) rfl dX10_sign_50
    exact sL_X10_sign_19 hX hR  k7 F _ _  hP
  · replace hP := ite_f hc2 hP
    refine V_iconst (v := (-1)) hX dX10_sign_14 (by decide) ?_
    exact hR _ _ _ _ (Option.some.inj hP) rfl dX10_sign_15
theorem c_X10_sign (l : Launch) (S : Sx) {r : Int32 × Wd} {F : Nat} {w : Wd} {x1 : Int32}  (h : P_X10_sign F w x1 = some r) : Met l yX10_sign (wsg yX10_sign cX10_sign 3 (some .int)) rm_X10_sign (PC S w [rf S 0, .int x1]) (QCi S r) 0 0 (Aw S) :=
  met_i (by decide) rfl (Nat.le_of_ble_eq_true rfl) ⟨rfl, rfl⟩ (fun X hX hR => s_X10_sign  hX hR h)

-- MustNotStop.end(I)Z
abbrev rm_X10_end : Room := { frames := 1, cells := 0, slots := 0, locals := 64 }
theorem nk_X10_end : MNk yX10_end RX10 1 := ⟨rfl, by decide, by decide, by decide +kernel⟩
def P_X10_end (F : Nat) (w : Wd) (x1 : Int32) : Option (Int32 × Wd) := (if x1 < 0 then some (0, w) else (if x1 ≤ (gI w 1 1) then lt (sI w 1 1 x1) (fun w4 => some (1, w4)) else some (0, w)))
set_option maxRecDepth 100000 in
set_option maxHeartbeats 4000000 in
theorem s_X10_end {X : Cx} {S : Sx} {r : Int32 × Wd} {F : Nat} {w : Wd} {x1 : Int32}  (hX : Ok X S cX10_end RX10 2 rm_X10_end) (hR : HRt X S cX10_end .boolean r) (hP : P_X10_end F w x1 = some r) : V X S w 0 [(0, rf S 0), (1, .int x1)] [] := by
  unfold P_X10_end at hP
  refine V_iload_n hX dX10_end_0 1 rfl ?_
  refine V_if_lt (tgt := 15) hX dX10_end_1 (by decide) (fun hc2 => ?_) (fun hc2 => ?_)
  · replace hP := ite_t hc2 hP
    refine V_iconst (v := 0) hX dX10_end_15 (by decide) ?_
    exact hR _ _ _ _ (Option.some.inj hP) rfl dX10_end_16
  · replace hP := ite_f hc2 hP
    refine V_iload_n hX dX10_end_4 1 rfl ?_
    refine V_aload_n hX dX10_end_5 0 rfl ?_
    refine V_getF (j := 1) hX fk_X10_10 tb_0 (fun _ _ _ => rfl) dX10_end_6 ?_
    refine V_getI hX fk_X10_97 tb_1 (fun _ _ _ => rfl) dX10_end_9 ?_
    refine V_icmp_le (tgt := 17) hX dX10_end_12 (by decide) (fun hc3 => ?_) (fun hc3 => ?_)
    · replace hP := ite_t hc3 hP
      refine V_aload_n hX dX10_end_17 0 rfl ?_
      refine V_getF (j := 1) hX fk_X10_10 tb_0 (fun _ _ _ => rfl) dX10_end_18 ?_
      refine V_iload_n hX dX10_end_21 1 rfl ?_
      refine V_putI hX fw_X10_97 tb_1 (fun _ _ _ => ⟨Nat.le_of_ble_eq_true rfl, rfl⟩) dX10_end_22 (fun w4 ew4 => ?_)
      replace hP := lt_r ew4 hP
      refine V_iconst (v := 1) hX dX10_end_25 (by decide) ?_
      exact hR _ _ _ _ (Option.some.inj hP) rfl dX10_end_26
    · replace hP := ite_f hc3 hP
      refine V_iconst (v := 0) hX dX10_end_15 (by decide) ?_
      exact hR _ _ _ _ (Option.some.inj hP) rfl dX10_end_16
theorem c_X10_end (l : Launch) (S : Sx) {r : Int32 × Wd} {F : Nat} {w : Wd} {x1 : Int32}  (h : P_X10_end F w x1 = some r) : Met l yX10_end (wsg yX10_end cX10_end 2 (some .boolean)) rm_X10_end (PC S w [rf S 0, .int x1]) (QCi S r) 0 0 (Aw S) :=
  met_i (by decide) rfl (Nat.le_of_ble_eq_true rfl) ⟨rfl, rfl⟩ (fun X hX hR => s_X10_end  hX hR h)

-- MustNotStop.enrol(LMustNotStop$Roll;)I
abbrev rm_X10_enrol : Room := { frames := 5, cells := 0, slots := 0, locals := 154 }
theorem nk_X10_enrol : MNk yX10_enrol RX10 1 := ⟨rfl, by decide, by decide, by decide +kernel⟩
def K_X10_enrol_27 (F : Nat) (a1 : Nat)  (w : Wd) (x7 : Int32) : Option (Int32 × Wd) := lt (sI w 1 1 0) (fun w8 => (if x7 ≤ 0 then some (x7, w8) else bnv (P_X4_clear F w8 ) (fun w10 => lt (sI w10 0 10 0) (fun w11 => some (x7, w11)))))
set_option maxRecDepth 100000 in
set_option maxHeartbeats 4000000 in
theorem sK_X10_enrol_27 {X : Cx} {S : Sx} {r : Int32 × Wd} {F : Nat} {a1 : Nat}  {w : Wd} {x7 : Int32} (hX : Ok X S cX10_enrol RX10 4 rm_X10_enrol) (hR : HRt X S cX10_enrol .int r) (ha1 : isX5 a1 = true)   (hP : K_X10_enrol_27 F a1  w x7 = some r) : V X S w 27 [(0, rf S 0)] [.int x7] := by
  unfold K_X10_enrol_27 at hP
  refine V_istore_n (lv' := [(3, .int x7), (0, rf S 0)]) hX dX10_enrol_27 (by decide) rfl ?_
  refine V_aload_n hX dX10_enrol_28 1 rfl ?_
  refine V_getF (j := 1) hX fk_X10_10 tb_0 (fun _ _ _ => rfl) dX10_enrol_29 ?_
  refine V_iconst (v := 0) hX dX10_enrol_32 (by decide) ?_
  refine V_putI hX fw_X10_97 tb_1 (fun _ _ _ => ⟨Nat.le_of_ble_eq_true rfl, rfl⟩) dX10_enrol_33 (fun w8 ew8 => ?_)
  replace hP := lt_r ew8 hP
  refine V_iload_n hX dX10_enrol_36 0 rfl ?_
  refine V_if_le (tgt := 52) hX dX10_enrol_37 (by decide) (fun hc9 => ?_) (fun hc9 => ?_)
  · replace hP := ite_t hc9 hP
    refine V_iload_n hX dX10_enrol_52 0 rfl ?_
    exact hR _ _ _ _ (Option.some.inj hP) rfl dX10_enrol_53
  · replace hP := ite_f hc9 hP
    refine V_aload_n hX dX10_enrol_40 1 rfl ?_
    refine V_getF (j := 29) hX fk_X10_71 tb_0 (fun _ _ _ => rfl) dX10_enrol_41 ?_
    obtain ⟨w10, hcw10, hP⟩ := bnv_e hP
    refine V_callVv (As := []) (rest := []) hX mk_X10_115 nk_X4_clear (fun l => c_X4_clear l S  hcw10) tb_29 rfl ⟨rfl, rfl, Nat.le_of_ble_eq_true rfl, Nat.le_of_ble_eq_true rfl⟩ rfl rfl (Nat.le_of_ble_eq_true rfl) dX10_enrol_44 ?_
    refine V_aload_n hX dX10_enrol_47 1 rfl ?_
    refine V_iconst (v := 0) hX dX10_enrol_48 (by decide) ?_
    refine V_putI hX fw_X10_79 tb_0 (fun _ _ _ => ⟨Nat.le_of_ble_eq_true rfl, rfl⟩) dX10_enrol_49 (fun w11 ew11 => ?_)
    replace hP := lt_r ew11 hP
    refine V_iload_n hX dX10_enrol_52 0 rfl ?_
    exact hR _ _ _ _ (Option.some.inj hP) rfl dX10_enrol_53
def P_X10_enrol (F : Nat) (w : Wd) (a1 : Nat) : Option (Int32 × Wd) := bnd (P_X5_faultIn F w a1) (fun x3 w2 => (if x3 < 0 then bnd (P_X5_admit F w2 a1) (fun x6 w5 => K_X10_enrol_27 F a1  w5 x6) else K_X10_enrol_27 F a1  w2 (((-1)) - x3)))
set_option maxRecDepth 100000 in
set_option maxHeartbeats 4000000 in
theorem s_X10_enrol {X : Cx} {S : Sx} {r : Int32 × Wd} {F : Nat} {w : Wd} {a1 : Nat} (ha1 : isX5 a1 = true) (hX : Ok X S cX10_enrol RX10 4 rm_X10_enrol) (hR : HRt X S cX10_enrol .int r) (hP : P_X10_enrol F w a1 = some r) : V X S w 0 [(0, rf S 0), (1, rf S a1)] [] := by
  unfold P_X10_enrol at hP
  refine V_aload_n hX dX10_enrol_0 1 rfl ?_
  refine V_aload_n hX dX10_enrol_1 0 rfl ?_
  refine V_getF (j := 1) hX fk_X10_10 tb_0 (fun _ _ _ => rfl) dX10_enrol_2 ?_
  obtain ⟨x3, w2, hcw2, hP⟩ := bnd_e hP
  refine V_callVi (As := [rf S 1]) (rest := []) hX mk_X10_108 nk_X5_faultIn (fun l => c_X5_faultIn l S ha1 hcw2) (tb_X5 ha1) rfl ⟨rfl, rfl, Nat.le_of_ble_eq_true rfl, Nat.le_of_ble_eq_true rfl⟩ rfl rfl (Nat.le_of_ble_eq_true rfl) dX10_enrol_5 ?_
  refine V_istore_n (lv' := [(2, .int x3), (0, rf S 0), (1, rf S a1)]) hX dX10_enrol_8 (by decide) rfl ?_
  refine V_iload_n hX dX10_enrol_9 0 rfl ?_
  refine V_if_lt (tgt := 19) hX dX10_enrol_10 (by decide) (fun hc4 => ?_) (fun hc4 => ?_)
  · replace hP := ite_t hc4 hP
    refine V_aload_n hX dX10_enrol_19 2 rfl ?_
    refine V_aload_n hX dX10_enrol_20 1 rfl ?_
    refine V_getF (j := 1) hX fk_X10_10 tb_0 (fun _ _ _ => rfl) dX10_enrol_21 ?_
    obtain ⟨x6, w5, hcw5, hP⟩ := bnd_e hP
    refine V_callVi (As := [rf S 1]) (rest := []) hX mk_X10_112 nk_X5_admit (fun l => c_X5_admit l S ha1 hcw5) (tb_X5 ha1) rfl ⟨rfl, rfl, Nat.le_of_ble_eq_true rfl, Nat.le_of_ble_eq_true rfl⟩ rfl rfl (Nat.le_of_ble_eq_true rfl) dX10_enrol_24 ?_
    refine V_sub (lv' := [(0, rf S 0)]) [1] rfl ?_
    exact sK_X10_enrol_27 hX hR ha1   hP
  · replace hP := ite_f hc4 hP
    refine V_iconst (v := (-1)) hX dX10_enrol_13 (by decide) ?_
    refine V_iload_n hX dX10_enrol_14 0 rfl ?_
    refine V_isub hX dX10_enrol_15 ?_
    refine V_goto (tgt := 27) hX dX10_enrol_16 (by decide) ?_
    refine V_sub (lv' := [(0, rf S 0)]) [1] rfl ?_
    exact sK_X10_enrol_27 hX hR ha1   hP
theorem c_X10_enrol (l : Launch) (S : Sx) {r : Int32 × Wd} {F : Nat} {w : Wd} {a1 : Nat} (ha1 : isX5 a1 = true) (h : P_X10_enrol F w a1 = some r) : Met l yX10_enrol (wsg yX10_enrol cX10_enrol 4 (some .int)) rm_X10_enrol (PC S w [rf S 0, rf S a1]) (QCi S r) 0 0 (Aw S) :=
  met_i (by decide) rfl (Nat.le_of_ble_eq_true rfl) ⟨rfl, rfl⟩ (fun X hX hR => s_X10_enrol ha1 hX hR h)

-- MustNotStop.ringers()I
abbrev rm_X10_ringers : Room := { frames := 6, cells := 0, slots := 0, locals := 177 }
theorem nk_X10_ringers : MNk yX10_ringers RX10 0 := ⟨rfl, by decide, by decide, by decide +kernel⟩
def P_X10_ringers (F : Nat) (w : Wd)  : Option (Int32 × Wd) := bnd (P_X10_enrol F w 6) (fun x2 w1 => some (x2, w1))
set_option maxRecDepth 100000 in
set_option maxHeartbeats 4000000 in
theorem s_X10_ringers {X : Cx} {S : Sx} {r : Int32 × Wd} {F : Nat} {w : Wd}   (hX : Ok X S cX10_ringers RX10 1 rm_X10_ringers) (hR : HRt X S cX10_ringers .int r) (hP : P_X10_ringers F w  = some r) : V X S w 0 [(0, rf S 0)] [] := by
  unfold P_X10_ringers at hP
  refine V_aload_n hX dX10_ringers_0 0 rfl ?_
  refine V_aload_n hX dX10_ringers_1 0 rfl ?_
  refine V_getF (j := 5) hX fk_X10_34 tb_0 (fun _ _ _ => rfl) dX10_ringers_2 ?_
  refine V_getF (j := 6) hX fk_X10_38 tb_5 (fun _ _ _ => rfl) dX10_ringers_5 ?_
  obtain ⟨x2, w1, hcw1, hP⟩ := bnd_e hP
  refine V_callVi (As := [rf S 6]) (rest := []) hX mk_X10_104 nk_X10_enrol (fun l => c_X10_enrol l S (by decide) hcw1) tb_0 rfl ⟨rfl, rfl, Nat.le_of_ble_eq_true rfl, Nat.le_of_ble_eq_true rfl⟩ rfl rfl (Nat.le_of_ble_eq_true rfl) dX10_ringers_8 ?_
  exact hR _ _ _ _ (Option.some.inj hP) rfl dX10_ringers_11
theorem c_X10_ringers (l : Launch) (S : Sx) {r : Int32 × Wd} {F : Nat} {w : Wd}   (h : P_X10_ringers F w  = some r) : Met l yX10_ringers (wsg yX10_ringers cX10_ringers 1 (some .int)) rm_X10_ringers (PC S w [rf S 0]) (QCi S r) 0 0 (Aw S) :=
  met_i (by decide) rfl (Nat.le_of_ble_eq_true rfl) ⟨rfl, rfl⟩ (fun X hX hR => s_X10_ringers  hX hR h)

-- MustNotStop.town()I
abbrev rm_X10_town : Room := { frames := 6, cells := 0, slots := 0, locals := 177 }
theorem nk_X10_town : MNk yX10_town RX10 0 := ⟨rfl, by decide, by decide, by decide +kernel⟩
def P_X10_town (F : Nat) (w : Wd)  : Option (Int32 × Wd) := bnd (P_X10_enrol F w 9) (fun x2 w1 => some (x2, w1))
set_option maxRecDepth 100000 in
set_option maxHeartbeats 4000000 in
theorem s_X10_town {X : Cx} {S : Sx} {r : Int32 × Wd} {F : Nat} {w : Wd}   (hX : Ok X S cX10_town RX10 1 rm_X10_town) (hR : HRt X S cX10_town .int r) (hP : P_X10_town F w  = some r) : V X S w 0 [(0, rf S 0)] [] := by
  unfold P_X10_town at hP
  refine V_aload_n hX dX10_town_0 0 rfl ?_
  refine V_aload_n hX dX10_town_1 0 rfl ?_
  refine V_getF (j := 5) hX fk_X10_34 tb_0 (fun _ _ _ => rfl) dX10_town_2 ?_
  refine V_getF (j := 9) hX fk_X10_42 tb_5 (fun _ _ _ => rfl) dX10_town_5 ?_
  obtain ⟨x2, w1, hcw1, hP⟩ := bnd_e hP
  refine V_callVi (As := [rf S 9]) (rest := []) hX mk_X10_104 nk_X10_enrol (fun l => c_X10_enrol l S (by decide) hcw1) tb_0 rfl ⟨rfl, rfl, Nat.le_of_ble_eq_true rfl, Nat.le_of_ble_eq_true rfl⟩ rfl rfl (Nat.le_of_ble_eq_true rfl) dX10_town_8 ?_
  exact hR _ _ _ _ (Option.some.inj hP) rfl dX10_town_11
theorem c_X10_town (l : Launch) (S : Sx) {r : Int32 × Wd} {F : Nat} {w : Wd}   (h : P_X10_town F w  = some r) : Met l yX10_town (wsg yX10_town cX10_town 1 (some .int)) rm_X10_town (PC S w [rf S 0]) (QCi S r) 0 0 (Aw S) :=
  met_i (by decide) rfl (Nat.le_of_ble_eq_true rfl) ⟨rfl, rfl⟩ (fun X hX hR => s_X10_town  hX hR h)

-- MustNotStop.rule()I
abbrev rm_X10_rule : Room := { frames := 7, cells := 0, slots := 0, locals := 203 }
theorem nk_X10_rule : MNk yX10_rule RX10 0 := ⟨rfl, by decide, by decide, by decide +kernel⟩
def P_X10_rule (F : Nat) (w : Wd)  : Option (Int32 × Wd) := lt (gR w 0 4) (fun a1 => gd (isX2 a1) (bnd (P_X2_read F w a1) (fun x3 w2 => lt (sI w2 1 1 0) (fun w4 => (if x3 < 0 then lt (gR w4 5 2) (fun a6 => gd (isX2 a6) (lt (gR w4 0 4) (fun a7 => gd (isX2 a7) (lt (sR w4 5 2 a7) (fun w8 => lt (sR w8 0 4 a6) (fun w9 => some (0, w9))))))) else some (((-1)) - x3, w4))))))
set_option maxRecDepth 100000 in
set_option maxHeartbeats 4000000 in
theorem s_X10_rule {X : Cx} {S : Sx} {r : Int32 × Wd} {F : Nat} {w : Wd}   (hX : Ok X S cX10_rule RX10 3 rm_X10_rule) (hR : HRt X S cX10_rule .int r) (hP : P_X10_rule F w  = some r) : V X S w 0 [(0, rf S 0)] [] := by
  unfold P_X10_rule at hP
  refine V_aload_n hX dX10_rule_0 0 rfl ?_
  refine V_getD hX fk_X10_52 tb_0 (fun _ _ _ => rfl) dX10_rule_1 ?_
  refine V_topr (fun a1 ea1 => ?_)
  replace hP := lt_r ea1 hP
  obtain ⟨ha1, hP⟩ := gd_e hP
  refine V_aload_n hX dX10_rule_4 0 rfl ?_
  refine V_getF (j := 1) hX fk_X10_10 tb_0 (fun _ _ _ => rfl) dX10_rule_5 ?_
  obtain ⟨x3, w2, hcw2, hP⟩ := bnd_e hP
  refine V_callVi (As := [rf S 1]) (rest := []) hX mk_X10_118 nk_X2_read (fun l => c_X2_read l S ha1 hcw2) (tb_X2 ha1) rfl ⟨rfl, rfl, Nat.le_of_ble_eq_true rfl, Nat.le_of_ble_eq_true rfl⟩ rfl rfl (Nat.le_of_ble_eq_true rfl) dX10_rule_8 ?_
  refine V_istore_n (lv' := [(1, .int x3), (0, rf S 0)]) hX dX10_rule_11 (by decide) rfl ?_
  refine V_aload_n hX dX10_rule_12 1 rfl ?_
  refine V_getF (j := 1) hX fk_X10_10 tb_0 (fun _ _ _ => rfl) dX10_rule_13 ?_
  refine V_iconst (v := 0) hX dX10_rule_16 (by decide) ?_
  refine V_putI hX fw_X10_97 tb_1 (fun _ _ _ => ⟨Nat.le_of_ble_eq_true rfl, rfl⟩) dX10_rule_17 (fun w4 ew4 => ?_)
  replace hP := lt_r ew4 hP
  refine V_iload_n hX dX10_rule_20 0 rfl ?_
  refine V_if_lt (tgt := 28) hX dX10_rule_21 (by decide) (fun hc5 => ?_) (fun hc5 => ?_)
  · replace hP := ite_t hc5 hP
    refine V_aload_n hX dX10_rule_28 1 rfl ?_
    refine V_getF (j := 5) hX fk_X10_34 tb_0 (fun _ _ _ => rfl) dX10_rule_29 ?_
    refine V_getD hX fk_X10_45 tb_5 (fun _ _ _ => rfl) dX10_rule_32 ?_
    refine V_topr (fun a6 ea6 => ?_)
    replace hP := lt_r ea6 hP
    obtain ⟨ha6, hP⟩ := gd_e hP
    refine V_astore_n (lv' := [(2, rf S a6), (1, .int x3), (0, rf S 0)]) hX dX10_rule_35 (by decide) rfl ?_
    refine V_aload_n hX dX10_rule_36 2 rfl ?_
    refine V_getF (j := 5) hX fk_X10_34 tb_0 (fun _ _ _ => rfl) dX10_rule_37 ?_
    refine V_aload_n hX dX10_rule_40 2 rfl ?_
    refine V_getD hX fk_X10_52 tb_0 (fun _ _ _ => rfl) dX10_rule_41 ?_
    refine V_topr (fun a7 ea7 => ?_)
    replace hP := lt_r ea7 hP
    obtain ⟨ha7, hP⟩ := gd_e hP
    refine V_putD hX fw_X10_45 tb_5 (fun _ _ _ => ⟨Nat.le_of_ble_eq_true rfl, rfl⟩) dX10_rule_44 (fun w8 ew8 => ?_)
    replace hP := lt_r ew8 hP
    refine V_aload_n hX dX10_rule_47 2 rfl ?_
    refine V_aload_n hX dX10_rule_48 0 rfl ?_
    refine V_putD hX fw_X10_52 tb_0 (fun _ _ _ => ⟨Nat.le_of_ble_eq_true rfl, rfl⟩) dX10_rule_49 (fun w9 ew9 => ?_)
    replace hP := lt_r ew9 hP
    refine V_iconst (v := 0) hX dX10_rule_52 (by decide) ?_
    exact hR _ _ _ _ (Option.some.inj hP) rfl dX10_rule_53
  · replace hP := ite_f hc5 hP
    refine V_iconst (v := (-1)) hX dX10_rule_24 (by decide) ?_
    refine V_iload_n hX dX10_rule_25 0 rfl ?_
    refine V_isub hX dX10_rule_26 ?_
    exact hR _ _ _ _ (Option.some.inj hP) rfl dX10_rule_27
theorem c_X10_rule (l : Launch) (S : Sx) {r : Int32 × Wd} {F : Nat} {w : Wd}   (h : P_X10_rule F w  = some r) : Met l yX10_rule (wsg yX10_rule cX10_rule 3 (some .int)) rm_X10_rule (PC S w [rf S 0]) (QCi S r) 0 0 (Aw S) :=
  met_i (by decide) rfl (Nat.le_of_ble_eq_true rfl) ⟨rfl, rfl⟩ (fun X hX hR => s_X10_rule  hX hR h)

-- MustNotStop.ringer(II)I
abbrev rm_X10_ringer : Room := { frames := 4, cells := 0, slots := 0, locals := 143 }
theorem nk_X10_ringer : MNk yX10_ringer RX10 2 := ⟨rfl, by decide, by decide, by decide +kernel⟩
def P_X10_ringer (F : Nat) (w : Wd) (x1 : Int32) (x2 : Int32) : Option (Option Int32 × Wd) := bnd (P_X5_has F w 6 x1) (fun x4 w3 => (if x4 = 0 then some (none, w3) else (if x2 = 0 then bnd (P_X5_firstOf F w3 6 x1) (fun x8 w7 => some (some x8, w7)) else (if x2 = 1 then bnd (P_X5_secondOf F w3 6 x1) (fun x11 w10 => some (some x11, w10)) else (if x2 = 2 then bnd (P_X1_tiredOf F w3 23 x1) (fun x14 w13 => some (some x14, w13)) else (if x2 = 3 then bnd (P_X1_holds F w3 23 x1) (fun x17 w16 => lt (if x17 = 0 then 0 else 1 : Int32) (fun x19 => some (some x19, w16))) else (if x2 = 4 then bnd (P_X9_volume F w3 5 23 (ishlI 1 x1)) (fun x23 w22 => some (some x23, w22)) else some (none, w3))))))))
set_option maxRecDepth 100000 in
set_option maxHeartbeats 4000000 in
theorem s_X10_ringer {X : Cx} {S : Sx} {r : Option Int32 × Wd} {F : Nat} {w : Wd} {x1 : Int32} {x2 : Int32}  (hX : Ok X S cX10_ringer RX10 3 rm_X10_ringer) (hR : HRxi X S cX10_ringer r) (hP : P_X10_ringer F w x1 x2 = some r) : V X S w 0 [(0, rf S 0), (1, .int x1), (2, .int x2)] [] := by
  unfold P_X10_ringer at hP
  refine V_aload_n hX dX10_ringer_0 0 rfl ?_
  refine V_getF (j := 5) hX fk_X10_34 tb_0 (fun _ _ _ => rfl) dX10_ringer_1 ?_
  refine V_getF (j := 6) hX fk_X10_38 tb_5 (fun _ _ _ => rfl) dX10_ringer_4 ?_
  refine V_iload_n hX dX10_ringer_7 1 rfl ?_
  obtain ⟨x4, w3, hcw3, hP⟩ := bnd_e hP
  refine V_callVi (As := [.int x1]) (rest := []) hX mk_X10_121 nk_X5_has (fun l => c_X5_has l S (by decide) hcw3) tb_6 rfl ⟨rfl, rfl, Nat.le_of_ble_eq_true rfl, Nat.le_of_ble_eq_true rfl⟩ rfl rfl (Nat.le_of_ble_eq_true rfl) dX10_ringer_8 ?_
  refine V_if_ne (tgt := 22) hX dX10_ringer_11 (by decide) (fun hc5 => ?_) (fun hc5 => ?_)
  · replace hP := ite_f hc5 hP
    refine V_iload_n hX dX10_ringer_22 2 rfl ?_
    by_cases hc6 : x2 = 0
    · replace hP := ite_t hc6 hP
      refine V_tableIn (tgt := 56) hX dX10_ringer_23 (by rw [hc6]; decide) (by rw [hc6]; decide) (by rw [hc6] <;> rfl) (by decide) ?_
      refine V_aload_n hX dX10_ringer_56 0 rfl ?_
      refine V_getF (j := 5) hX fk_X10_34 tb_0 (fun _ _ _ => rfl) dX10_ringer_57 ?_
      refine V_getF (j := 6) hX fk_X10_38 tb_5 (fun _ _ _ => rfl) dX10_ringer_60 ?_
      refine V_iload_n hX dX10_ringer_63 1 rfl ?_
      obtain ⟨x8, w7, hcw7, hP⟩ := bnd_e hP
      refine V_callVi (As := [.int x1]) (rest := []) hX mk_X10_128 nk_X5_firstOf (fun l => c_X5_firstOf l S (by decide) hcw7) tb_6 rfl ⟨rfl, rfl, Nat.le_of_ble_eq_true rfl, Nat.le_of_ble_eq_true rfl⟩ rfl rfl (Nat.le_of_ble_eq_true rfl) dX10_ringer_64 ?_
      exact hR.1 _ _ _ _ (Option.some.inj hP) dX10_ringer_67
    replace hP := ite_f hc6 hP
    by_cases hc9 : x2 = 1
    · replace hP := ite_t hc9 hP
      refine V_tableIn (tgt := 68) hX dX10_ringer_23 (by rw [hc9]; decide) (by rw [hc9]; decide) (by rw [hc9] <;> rfl) (by decide) ?_
      refine V_aload_n hX dX10_ringer_68 0 rfl ?_
      refine V_getF (j := 5) hX fk_X10_34 tb_0 (fun _ _ _ => rfl) dX10_ringer_69 ?_
      refine V_getF (j := 6) hX fk_X10_38 tb_5 (fun _ _ _ => rfl) dX10_ringer_72 ?_
      refine V_iload_n hX dX10_ringer_75 1 rfl ?_
      obtain ⟨x11, w10, hcw10, hP⟩ := bnd_e hP
      refine V_callVi (As := [.int x1]) (rest := []) hX mk_X10_132 nk_X5_secondOf (fun l => c_X5_secondOf l S (by decide) hcw10) tb_6 rfl ⟨rfl, rfl, Nat.le_of_ble_eq_true rfl, Nat.le_of_ble_eq_true rfl⟩ rfl rfl (Nat.le_of_ble_eq_true rfl) dX10_ringer_76 ?_
      exact hR.1 _ _ _ _ (Option.some.inj hP) dX10_ringer_79
    replace hP := ite_f hc9 hP
    by_cases hc12 : x2 = 2
    · replace hP := ite_t hc12 hP
      refine V_tableIn (tgt := 80) hX dX10_ringer_23 (by rw [hc12]; decide) (by rw [hc12]; decide) (by rw [hc12] <;> rfl) (by decide) ?_
      refine V_aload_n hX dX10_ringer_80 0 rfl ?_
      refine V_getF (j := 23) hX fk_X10_58 tb_0 (fun _ _ _ => rfl) dX10_ringer_81 ?_
      refine V_iload_n hX dX10_ringer_84 1 rfl ?_
      obtain ⟨x14, w13, hcw13, hP⟩ := bnd_e hP
      refine V_callVi (As := [.int x1]) (rest := []) hX mk_X10_135 nk_X1_tiredOf (fun l => c_X1_tiredOf l S (by decide) hcw13) tb_23 rfl ⟨rfl, rfl, Nat.le_of_ble_eq_true rfl, Nat.le_of_ble_eq_true rfl⟩ rfl rfl (Nat.le_of_ble_eq_true rfl) dX10_ringer_85 ?_
      exact hR.1 _ _ _ _ (Option.some.inj hP) dX10_ringer_88
    replace hP := ite_f hc12 hP
    by_cases hc15 : x2 = 3
    · replace hP := ite_t hc15 hP
      refine V_tableIn (tgt := 89) hX dX10_ringer_23 (by rw [hc15]; decide) (by rw [hc15]; decide) (by rw [hc15] <;> rfl) (by decide) ?_
      refine V_aload_n hX dX10_ringer_89 0 rfl ?_
      refine V_getF (j := 23) hX fk_X10_58 tb_0 (fun _ _ _ => rfl) dX10_ringer_90 ?_
      refine V_iload_n hX dX10_ringer_93 1 rfl ?_
      obtain ⟨x17, w16, hcw16, hP⟩ := bnd_e hP
      refine V_callVi (As := [.int x1]) (rest := []) hX mk_X10_138 nk_X1_holds (fun l => c_X1_holds l S (by decide) hcw16) tb_23 rfl ⟨rfl, rfl, Nat.le_of_ble_eq_true rfl, Nat.le_of_ble_eq_true rfl⟩ rfl rfl (Nat.le_of_ble_eq_true rfl) dX10_ringer_94 ?_
      have k20 : V X S w16 105 [(0, rf S 0), (1, .int x1), (2, .int x2)] [.int (if x17 = 0 then 0 else 1)] := by
        refine V_topi (fun x19 ex19 => ?_)
        replace hP := lt_r ex19 hP
        exact hR.1 _ _ _ _ (Option.some.inj hP) dX10_ringer_105
      refine V_if_eq (tgt := 104) hX dX10_ringer_97 (by decide) (fun hc18 => ?_) (fun hc18 => ?_)
      · refine V_iconst (v := 0) hX dX10_ringer_104 (by decide) ?_
        refine V_selT (c := x17 = 0) (b := 1) hc18 ?_
        exact k20
      · refine V_iconst (v := 1) hX dX10_ringer_100 (by decide) ?_
        refine V_goto (tgt := 105) hX dX10_ringer_101 (by decide) ?_
        refine V_selF (c := x17 = 0) (a := 0) hc18 ?_
        exact k20
    replace hP := ite_f hc15 hP
    by_cases hc21 : x2 = 4
    · replace hP := ite_t hc21 hP
      refine V_tableIn (tgt := 106) hX dX10_ringer_23 (by rw [hc21]; decide) (by rw [hc21]; decide) (by rw [hc21] <;> rfl) (by decide) ?_
      refine V_aload_n hX dX10_ringer_106 0 rfl ?_
      refine V_getF (j := 5) hX fk_X10_34 tb_0 (fun _ _ _ => rfl) dX10_ringer_107 ?_
      refine V_aload_n hX dX10_ringer_110 0 rfl ?_
      refine V_getF (j := 23) hX fk_X10_58 tb_0 (fun _ _ _ => rfl) dX10_ringer_111 ?_
      refine V_iconst (v := 1) hX dX10_ringer_114 (by decide) ?_
      refine V_iload_n hX dX10_ringer_115 1 rfl ?_
      refine V_ishl hX dX10_ringer_116 ?_
      obtain ⟨x23, w22, hcw22, hP⟩ := bnd_e hP
      refine V_callVi (As := [rf S 23, .int (ishlI 1 x1)]) (rest := []) hX mk_X10_141 nk_X9_volume (fun l => c_X9_volume l S (by decide) (by decide) hcw22) tb_5 rfl ⟨rfl, rfl, Nat.le_of_ble_eq_true rfl, Nat.le_of_ble_eq_true rfl⟩ rfl rfl (Nat.le_of_ble_eq_true rfl) dX10_ringer_117 ?_
      exact hR.1 _ _ _ _ (Option.some.inj hP) dX10_ringer_120
    replace hP := ite_f hc21 hP
    refine V_tableOut (tgt := 121) hX dX10_ringer_23 (ts_out (fun k h1 h2 => by
        have hk : k = 0 ∨ k = 1 ∨ k = 2 ∨ k = 3 ∨ k = 4 := by omega
        rcases hk with rfl | rfl | rfl | rfl | rfl
        · exact fun e => hc6 (by rw [e]; rfl)
        · exact fun e => hc9 (by rw [e]; rfl)
        · exact fun e => hc12 (by rw [e]; rfl)
        · exact fun e => hc15 (by rw [e]; rfl)
        · exact fun e => hc21 (by rw [e]; rfl)
        )) (by decide) ?_
    exact hR.2 _ _ _ _ (Option.some.inj hP) dX10_ringer_121
  · replace hP := ite_t hc5 hP
    exact hR.2 _ _ _ _ (Option.some.inj hP) dX10_ringer_14

-- MustNotStop.person(II)I
abbrev rm_X10_person : Room := { frames := 3, cells := 0, slots := 0, locals := 106 }
theorem nk_X10_person : MNk yX10_person RX10 2 := ⟨rfl, by decide, by decide, by decide +kernel⟩
def P_X10_person (F : Nat) (w : Wd) (x1 : Int32) (x2 : Int32) : Option (Option Int32 × Wd) := bnd (P_X5_has F w 9 x1) (fun x4 w3 => (if x4 = 0 then some (none, w3) else (if x2 = 0 then bnd (P_X5_firstOf F w3 9 x1) (fun x8 w7 => some (some x8, w7)) else (if x2 = 1 then bnd (P_X5_secondOf F w3 9 x1) (fun x11 w10 => some (some x11, w10)) else (if x2 = 2 then some (some ((ishrI (gI w3 23 8) x1) &&& 1), w3) else some (none, w3))))))
set_option maxRecDepth 100000 in
set_option maxHeartbeats 4000000 in
theorem s_X10_person {X : Cx} {S : Sx} {r : Option Int32 × Wd} {F : Nat} {w : Wd} {x1 : Int32} {x2 : Int32}  (hX : Ok X S cX10_person RX10 3 rm_X10_person) (hR : HRxi X S cX10_person r) (hP : P_X10_person F w x1 x2 = some r) : V X S w 0 [(0, rf S 0), (1, .int x1), (2, .int x2)] [] := by
  unfold P_X10_person at hP
  refine V_aload_n hX dX10_person_0 0 rfl ?_
  refine V_getF (j := 5) hX fk_X10_34 tb_0 (fun _ _ _ => rfl) dX10_person_1 ?_
  refine V_getF (j := 9) hX fk_X10_42 tb_5 (fun _ _ _ => rfl) dX10_person_4 ?_
  refine V_iload_n hX dX10_person_7 1 rfl ?_
  obtain ⟨x4, w3, hcw3, hP⟩ := bnd_e hP
  refine V_callVi (As := [.int x1]) (rest := []) hX mk_X10_121 nk_X5_has (fun l => c_X5_has l S (by decide) hcw3) tb_9 rfl ⟨rfl, rfl, Nat.le_of_ble_eq_true rfl, Nat.le_of_ble_eq_true rfl⟩ rfl rfl (Nat.le_of_ble_eq_true rfl) dX10_person_8 ?_
  refine V_if_ne (tgt := 22) hX dX10_person_11 (by decide) (fun hc5 => ?_) (fun hc5 => ?_)
  · replace hP := ite_f hc5 hP
    refine V_iload_n hX dX10_person_22 2 rfl ?_
    by_cases hc6 : x2 = 0
    · replace hP := ite_t hc6 hP
      refine V_tableIn (tgt := 48) hX dX10_person_23 (by rw [hc6]; decide) (by rw [hc6]; decide) (by rw [hc6] <;> rfl) (by decide) ?_
      refine V_aload_n hX dX10_person_48 0 rfl ?_
      refine V_getF (j := 5) hX fk_X10_34 tb_0 (fun _ _ _ => rfl) dX10_person_49 ?_
      refine V_getF (j := 9) hX fk_X10_42 tb_5 (fun _ _ _ => rfl) dX10_person_52 ?_
      refine V_iload_n hX dX10_person_55 1 rfl ?_
      obtain ⟨x8, w7, hcw7, hP⟩ := bnd_e hP
      refine V_callVi (As := [.int x1]) (rest := []) hX mk_X10_128 nk_X5_firstOf (fun l => c_X5_firstOf l S (by decide) hcw7) tb_9 rfl ⟨rfl, rfl, Nat.le_of_ble_eq_true rfl, Nat.le_of_ble_eq_true rfl⟩ rfl rfl (Nat.le_of_ble_eq_true rfl) dX10_person_56 ?_
      exact hR.1 _ _ _ _ (Option.some.inj hP) dX10_person_59
    replace hP := ite_f hc6 hP
    by_cases hc9 : x2 = 1
    · replace hP := ite_t hc9 hP
      refine V_tableIn (tgt := 60) hX dX10_person_23 (by rw [hc9]; decide) (by rw [hc9]; decide) (by rw [hc9] <;> rfl) (by decide) ?_
      refine V_aload_n hX dX10_person_60 0 rfl ?_
      refine V_getF (j := 5) hX fk_X10_34 tb_0 (fun _ _ _ => rfl) dX10_person_61 ?_
      refine V_getF (j := 9) hX fk_X10_42 tb_5 (fun _ _ _ => rfl) dX10_person_64 ?_
      refine V_iload_n hX dX10_person_67 1 rfl ?_
      obtain ⟨x11, w10, hcw10, hP⟩ := bnd_e hP
      refine V_callVi (As := [.int x1]) (rest := []) hX mk_X10_132 nk_X5_secondOf (fun l => c_X5_secondOf l S (by decide) hcw10) tb_9 rfl ⟨rfl, rfl, Nat.le_of_ble_eq_true rfl, Nat.le_of_ble_eq_true rfl⟩ rfl rfl (Nat.le_of_ble_eq_true rfl) dX10_person_68 ?_
      exact hR.1 _ _ _ _ (Option.some.inj hP) dX10_person_71
    replace hP := ite_f hc9 hP
    by_cases hc12 : x2 = 2
    · replace hP := ite_t hc12 hP
      refine V_tableIn (tgt := 72) hX dX10_person_23 (by rw [hc12]; decide) (by rw [hc12]; decide) (by rw [hc12] <;> rfl) (by decide) ?_
      refine V_aload_n hX dX10_person_72 0 rfl ?_
      refine V_getF (j := 23) hX fk_X10_58 tb_0 (fun _ _ _ => rfl) dX10_person_73 ?_
      refine V_getI hX fk_X10_145 tb_23 (fun _ _ _ => rfl) dX10_person_76 ?_
      refine V_iload_n hX dX10_person_79 1 rfl ?_
      refine V_ishr hX dX10_person_80 ?_
      refine V_iconst (v := 1) hX dX10_person_81 (by decide) ?_
      refine V_iand hX dX10_person_82 ?_
      exact hR.1 _ _ _ _ (Option.some.inj hP) dX10_person_83
    replace hP := ite_f hc12 hP
    refine V_tableOut (tgt := 84) hX dX10_person_23 (ts_out (fun k h1 h2 => by
        have hk : k = 0 ∨ k = 1 ∨ k = 2 := by omega
        rcases hk with rfl | rfl | rfl
        · exact fun e => hc6 (by rw [e]; rfl)
        · exact fun e => hc9 (by rw [e]; rfl)
        · exact fun e => hc12 (by rw [e]; rfl)
        )) (by decide) ?_
    exact hR.2 _ _ _ _ (Option.some.inj hP) dX10_person_84
  · replace hP := ite_t hc5 hP
    exact hR.2 _ _ _ _ (Option.some.inj hP) dX10_person_14

-- MustNotStop.loud()I
abbrev rm_X10_loud : Room := { frames := 4, cells := 0, slots := 0, locals := 143 }
theorem nk_X10_loud : MNk yX10_loud RX10 0 := ⟨rfl, by decide, by decide, by decide +kernel⟩
def P_X10_loud (F : Nat) (w : Wd)  : Option (Int32 × Wd) := bnd (P_X9_volume F w 5 23 (gI w 23 1)) (fun x2 w1 => some (x2, w1))
set_option maxRecDepth 100000 in
set_option maxHeartbeats 4000000 in
theorem s_X10_loud {X : Cx} {S : Sx} {r : Int32 × Wd} {F : Nat} {w : Wd}   (hX : Ok X S cX10_loud RX10 1 rm_X10_loud) (hR : HRt X S cX10_loud .int r) (hP : P_X10_loud F w  = some r) : V X S w 0 [(0, rf S 0)] [] := by
  unfold P_X10_loud at hP
  refine V_aload_n hX dX10_loud_0 0 rfl ?_
  refine V_getF (j := 5) hX fk_X10_34 tb_0 (fun _ _ _ => rfl) dX10_loud_1 ?_
  refine V_aload_n hX dX10_loud_4 0 rfl ?_
  refine V_getF (j := 23) hX fk_X10_58 tb_0 (fun _ _ _ => rfl) dX10_loud_5 ?_
  refine V_aload_n hX dX10_loud_8 0 rfl ?_
  refine V_getF (j := 23) hX fk_X10_58 tb_0 (fun _ _ _ => rfl) dX10_loud_9 ?_
  refine V_getI hX fk_X10_148 tb_23 (fun _ _ _ => rfl) dX10_loud_12 ?_
  obtain ⟨x2, w1, hcw1, hP⟩ := bnd_e hP
  refine V_callVi (As := [rf S 23, .int (gI w 23 1)]) (rest := []) hX mk_X10_141 nk_X9_volume (fun l => c_X9_volume l S (by decide) (by decide) hcw1) tb_5 rfl ⟨rfl, rfl, Nat.le_of_ble_eq_true rfl, Nat.le_of_ble_eq_true rfl⟩ rfl rfl (Nat.le_of_ble_eq_true rfl) dX10_loud_15 ?_
  exact hR _ _ _ _ (Option.some.inj hP) rfl dX10_loud_18
theorem c_X10_loud (l : Launch) (S : Sx) {r : Int32 × Wd} {F : Nat} {w : Wd}   (h : P_X10_loud F w  = some r) : Met l yX10_loud (wsg yX10_loud cX10_loud 1 (some .int)) rm_X10_loud (PC S w [rf S 0]) (QCi S r) 0 0 (Aw S) :=
  met_i (by decide) rfl (Nat.le_of_ble_eq_true rfl) ⟨rfl, rfl⟩ (fun X hX hR => s_X10_loud  hX hR h)

-- MustNotStop.set(II)I
abbrev rm_X10_set : Room := { frames := 1, cells := 0, slots := 0, locals := 64 }
theorem nk_X10_set : MNk yX10_set RX10 2 := ⟨rfl, by decide, by decide, by decide +kernel⟩
def K_X10_set_70 (F : Nat) (x1 : Int32) (x2 : Int32)  (w : Wd) (x6 : Int32) : Option (Int32 × Wd) := (if x1 = 2 then (if x2 < 0 then some (x6, w) else (if (9 : Int32) < x2 then some (x6, w) else lt (gI w 5 5 : Int32) (fun x10 => lt (sI w 5 5 x2) (fun w11 => some (x10, w11))))) else some (x6, w))
set_option maxRecDepth 100000 in
set_option maxHeartbeats 4000000 in
theorem sK_X10_set_70 {X : Cx} {S : Sx} {r : Int32 × Wd} {F : Nat} {x1 : Int32} {x2 : Int32}  {w : Wd} {x6 : Int32} (hX : Ok X S cX10_set RX10 4 rm_X10_set) (hR : HRt X S cX10_set .int r)    (hP : K_X10_set_70 F x1 x2  w x6 = some r) : V X S w 70 [(0, rf S 0), (1, .int x1), (2, .int x2), (3, .int x6)] [] := by
  unfold K_X10_set_70 at hP
  refine V_iload_n hX dX10_set_70 1 rfl ?_
  refine V_iconst (v := 2) hX dX10_set_71 (by decide) ?_
  refine V_icmp_ne (tgt := 101) hX dX10_set_72 (by decide) (fun hc7 => ?_) (fun hc7 => ?_)
  · replace hP := ite_f hc7 hP
    refine V_iload_n hX dX10_set_101 3 rfl ?_
    exact hR _ _ _ _ (Option.some.inj hP) rfl dX10_set_102
  · replace hP := ite_t hc7 hP
    refine V_iload_n hX dX10_set_75 2 rfl ?_
    refine V_if_lt (tgt := 101) hX dX10_set_76 (by decide) (fun hc8 => ?_) (fun hc8 => ?_)
    · replace hP := ite_t hc8 hP
      refine V_iload_n hX dX10_set_101 3 rfl ?_
      exact hR _ _ _ _ (Option.some.inj hP) rfl dX10_set_102
    · replace hP := ite_f hc8 hP
      refine V_iload_n hX dX10_set_79 2 rfl ?_
      refine V_bipush (v := 9) hX dX10_set_80 (by decide) ?_
      refine V_icmp_gt (tgt := 101) hX dX10_set_82 (by decide) (fun hc9 => ?_) (fun hc9 => ?_)
      · replace hP := ite_t hc9 hP
        refine V_iload_n hX dX10_set_101 3 rfl ?_
        exact hR _ _ _ _ (Option.some.inj hP) rfl dX10_set_102
      · replace hP := ite_f hc9 hP
        refine V_aload_n hX dX10_set_85 0 rfl ?_
        refine V_getF (j := 5) hX fk_X10_34 tb_0 (fun _ _ _ => rfl) dX10_set_86 ?_
        refine V_getI hX fk_X10_157 tb_5 (fun _ _ _ => rfl) dX10_set_89 ?_
        refine V_topi (fun x10 ex10 => ?_)
        replace hP := lt_r ex10 hP
        refine V_istore_n (lv' := [(3, .int x10), (0, rf S 0), (1, .int x1), (2, .int x2)]) hX dX10_set_92 (by decide) rfl ?_
        refine V_aload_n hX dX10_set_93 1 rfl ?_
        refine V_getF (j := 5) hX fk_X10_34 tb_0 (fun _ _ _ => rfl) dX10_set_94 ?_
        refine V_iload_n hX dX10_set_97 3 rfl ?_
        refine V_putI hX fw_X10_157 tb_5 (fun _ _ _ => ⟨Nat.le_of_ble_eq_true rfl, rfl⟩) dX10_set_98 (fun w11 ew11 => ?_)
        replace hP := lt_r ew11 hP
        refine V_iload_n hX dX10_set_101 0 rfl ?_
        exact hR _ _ _ _ (Option.some.inj hP) rfl dX10_set_102
def K_X10_set_36 (F : Nat) (x1 : Int32) (x2 : Int32)  (w : Wd) (x4 : Int32) : Option (Int32 × Wd) := (if x1 = 1 then (if x2 < 0 then K_X10_set_70 F x1 x2  w x4 else (if (9 : Int32) < x2 then K_X10_set_70 F x1 x2  w x4 else lt (gI w 5 4 : Int32) (fun x14 => lt (sI w 5 4 x2) (fun w15 => some (x14, w15))))) else K_X10_set_70 F x1 x2  w x4)
set_option maxRecDepth 100000 in
set_option maxHeartbeats 4000000 in
theorem sK_X10_set_36 {X : Cx} {S : Sx} {r : Int32 × Wd} {F : Nat} {x1 : Int32} {x2 : Int32}  {w : Wd} {x4 : Int32} (hX : Ok X S cX10_set RX10 4 rm_X10_set) (hR : HRt X S cX10_set .int r)    (hP : K_X10_set_36 F x1 x2  w x4 = some r) : V X S w 36 [(0, rf S 0), (1, .int x1), (2, .int x2), (3, .int x4)] [] := by
  unfold K_X10_set_36 at hP
  refine V_iload_n hX dX10_set_36 1 rfl ?_
  refine V_iconst (v := 1) hX dX10_set_37 (by decide) ?_
  refine V_icmp_ne (tgt := 70) hX dX10_set_38 (by decide) (fun hc5 => ?_) (fun hc5 => ?_)
  · replace hP := ite_f hc5 hP
    exact sK_X10_set_70 hX hR    hP
  · replace hP := ite_t hc5 hP
    refine V_iload_n hX dX10_set_41 2 rfl ?_
    refine V_if_lt (tgt := 70) hX dX10_set_42 (by decide) (fun hc12 => ?_) (fun hc12 => ?_)
    · replace hP := ite_t hc12 hP
      exact sK_X10_set_70 hX hR    hP
    · replace hP := ite_f hc12 hP
      refine V_iload_n hX dX10_set_45 2 rfl ?_
      refine V_bipush (v := 9) hX dX10_set_46 (by decide) ?_
      refine V_icmp_gt (tgt := 70) hX dX10_set_48 (by decide) (fun hc13 => ?_) (fun hc13 => ?_)
      · replace hP := ite_t hc13 hP
        exact sK_X10_set_70 hX hR    hP
      · replace hP := ite_f hc13 hP
        refine V_aload_n hX dX10_set_51 0 rfl ?_
        refine V_getF (j := 5) hX fk_X10_34 tb_0 (fun _ _ _ => rfl) dX10_set_52 ?_
        refine V_getI hX fk_X10_154 tb_5 (fun _ _ _ => rfl) dX10_set_55 ?_
        refine V_topi (fun x14 ex14 => ?_)
        replace hP := lt_r ex14 hP
        refine V_istore_n (lv' := [(3, .int x14), (0, rf S 0), (1, .int x1), (2, .int x2)]) hX dX10_set_58 (by decide) rfl ?_
        refine V_aload_n hX dX10_set_59 1 rfl ?_
        refine V_getF (j := 5) hX fk_X10_34 tb_0 (fun _ _ _ => rfl) dX10_set_60 ?_
        refine V_iload_n hX dX10_set_63 3 rfl ?_
        refine V_putI hX fw_X10_154 tb_5 (fun _ _ _ => ⟨Nat.le_of_ble_eq_true rfl, rfl⟩) dX10_set_64 (fun w15 ew15 => ?_)
        replace hP := lt_r ew15 hP
        refine V_goto (tgt := 101) hX dX10_set_67 (by decide) ?_
        refine V_iload_n hX dX10_set_101 0 rfl ?_
        exact hR _ _ _ _ (Option.some.inj hP) rfl dX10_set_102
def P_X10_set (F : Nat) (w : Wd) (x1 : Int32) (x2 : Int32) : Option (Int32 × Wd) := (if x1 = 0 then (if x2 < 1 then K_X10_set_36 F x1 x2  w ((-1)) else (if (30 : Int32) < x2 then K_X10_set_36 F x1 x2  w ((-1)) else lt (gI w 5 3 : Int32) (fun x18 => lt (sI w 5 3 x2) (fun w19 => some (x18, w19))))) else K_X10_set_36 F x1 x2  w ((-1)))
set_option maxRecDepth 100000 in
set_option maxHeartbeats 4000000 in
theorem s_X10_set {X : Cx} {S : Sx} {r : Int32 × Wd} {F : Nat} {w : Wd} {x1 : Int32} {x2 : Int32}  (hX : Ok X S cX10_set RX10 4 rm_X10_set) (hR : HRt X S cX10_set .int r) (hP : P_X10_set F w x1 x2 = some r) : V X S w 0 [(0, rf S 0), (1, .int x1), (2, .int x2)] [] := by
  unfold P_X10_set at hP
  refine V_iconst (v := (-1)) hX dX10_set_0 (by decide) ?_
  refine V_istore_n (lv' := [(3, .int ((-1))), (0, rf S 0), (1, .int x1), (2, .int x2)]) hX dX10_set_1 (by decide) rfl ?_
  refine V_iload_n hX dX10_set_2 2 rfl ?_
  refine V_if_ne (tgt := 36) hX dX10_set_3 (by decide) (fun hc3 => ?_) (fun hc3 => ?_)
  · replace hP := ite_f hc3 hP
    refine V_sub (lv' := [(0, rf S 0), (1, .int x1), (2, .int x2), (3, .int ((-1)))]) [1, 2, 3, 0] rfl ?_
    exact sK_X10_set_36 hX hR    hP
  · replace hP := ite_t hc3 hP
    refine V_iload_n hX dX10_set_6 3 rfl ?_
    refine V_iconst (v := 1) hX dX10_set_7 (by decide) ?_
    refine V_icmp_lt (tgt := 36) hX dX10_set_8 (by decide) (fun hc16 => ?_) (fun hc16 => ?_)
    · replace hP := ite_t hc16 hP
      refine V_sub (lv' := [(0, rf S 0), (1, .int x1), (2, .int x2), (3, .int ((-1)))]) [1, 2, 3, 0] rfl ?_
      exact sK_X10_set_36 hX hR    hP
    · replace hP := ite_f hc16 hP
      refine V_iload_n hX dX10_set_11 3 rfl ?_
      refine V_bipush (v := 30) hX dX10_set_12 (by decide) ?_
      refine V_icmp_gt (tgt := 36) hX dX10_set_14 (by decide) (fun hc17 => ?_) (fun hc17 => ?_)
      · replace hP := ite_t hc17 hP
        refine V_sub (lv' := [(0, rf S 0), (1, .int x1), (2, .int x2), (3, .int ((-1)))]) [1, 2, 3, 0] rfl ?_
        exact sK_X10_set_36 hX hR    hP
      · replace hP := ite_f hc17 hP
        refine V_aload_n hX dX10_set_17 1 rfl ?_
        refine V_getF (j := 5) hX fk_X10_34 tb_0 (fun _ _ _ => rfl) dX10_set_18 ?_
        refine V_getI hX fk_X10_151 tb_5 (fun _ _ _ => rfl) dX10_set_21 ?_
        refine V_topi (fun x18 ex18 => ?_)
        replace hP := lt_r ex18 hP
        refine V_istore_n (lv' := [(3, .int x18), (0, rf S 0), (1, .int x1), (2, .int x2)]) hX dX10_set_24 (by decide) rfl ?_
        refine V_aload_n hX dX10_set_25 1 rfl ?_
        refine V_getF (j := 5) hX fk_X10_34 tb_0 (fun _ _ _ => rfl) dX10_set_26 ?_
        refine V_iload_n hX dX10_set_29 3 rfl ?_
        refine V_putI hX fw_X10_151 tb_5 (fun _ _ _ => ⟨Nat.le_of_ble_eq_true rfl, rfl⟩) dX10_set_30 (fun w19 ew19 => ?_)
        replace hP := lt_r ew19 hP
        refine V_goto (tgt := 101) hX dX10_set_33 (by decide) ?_
        refine V_iload_n hX dX10_set_101 0 rfl ?_
        exact hR _ _ _ _ (Option.some.inj hP) rfl dX10_set_102
theorem c_X10_set (l : Launch) (S : Sx) {r : Int32 × Wd} {F : Nat} {w : Wd} {x1 : Int32} {x2 : Int32}  (h : P_X10_set F w x1 x2 = some r) : Met l yX10_set (wsg yX10_set cX10_set 4 (some .int)) rm_X10_set (PC S w [rf S 0, .int x1, .int x2]) (QCi S r) 0 0 (Aw S) :=
  met_i (by decide) rfl (Nat.le_of_ble_eq_true rfl) ⟨rfl, rfl⟩ (fun X hX hR => s_X10_set  hX hR h)

-- MustNotStop.entry(II)I
abbrev rm_X10_entry : Room := { frames := 1, cells := 0, slots := 0, locals := 64 }
theorem nk_X10_entry : MNk yX10_entry RX10 2 := ⟨rfl, by decide, by decide, by decide +kernel⟩
def P_X10_entry (F : Nat) (w : Wd) (x1 : Int32) (x2 : Int32) : Option (Int32 × Wd) := lt (if x1 = 0 then i2bI x2 else if x1 = 1 then i2sI x2 else x2 : Int32) (fun x5 => some (maxI 0 (minI 99 x5), w))
set_option maxRecDepth 100000 in
set_option maxHeartbeats 4000000 in
theorem s_X10_entry {X : Cx} {S : Sx} {r : Int32 × Wd} {F : Nat} {w : Wd} {x1 : Int32} {x2 : Int32}  (hX : Ok X S cX10_entry RX10 3 rm_X10_entry) (hR : HRt X S cX10_entry .int r) (hP : P_X10_entry F w x1 x2 = some r) : V X S w 0 [(0, .int x1), (1, .int x2)] [] := by
  unfold P_X10_entry at hP
  refine V_iload_n hX dX10_entry_0 0 rfl ?_
  have k6 : V X S w 20 [(0, .int x1), (1, .int x2)] [.int (if x1 = 0 then i2bI x2 else if x1 = 1 then i2sI x2 else x2)] := by
    refine V_topi (fun x5 ex5 => ?_)
    replace hP := lt_r ex5 hP
    refine V_istore_n (lv' := [(2, .int x5), (0, .int x1), (1, .int x2)]) hX dX10_entry_20 (by decide) rfl ?_
    refine V_iconst (v := 0) hX dX10_entry_21 (by decide) ?_
    refine V_bipush (v := 99) hX dX10_entry_22 (by decide) ?_
    refine V_iload_n hX dX10_entry_24 0 rfl ?_
    refine V_min hX mk_X10_172 ⟨Nat.le_of_ble_eq_true rfl, Nat.le_of_ble_eq_true rfl⟩ dX10_entry_25 ?_
    refine V_max hX mk_X10_177 ⟨Nat.le_of_ble_eq_true rfl, Nat.le_of_ble_eq_true rfl⟩ dX10_entry_28 ?_
    exact hR _ _ _ _ (Option.some.inj hP) rfl dX10_entry_31
  refine V_if_ne (tgt := 9) hX dX10_entry_1 (by decide) (fun hc4 => ?_) (fun hc4 => ?_)
  · refine V_iload_n hX dX10_entry_9 0 rfl ?_
    refine V_iconst (v := 1) hX dX10_entry_10 (by decide) ?_
    refine V_icmp_ne (tgt := 19) hX dX10_entry_11 (by decide) (fun hc3 => ?_) (fun hc3 => ?_)
    · refine V_iload_n hX dX10_entry_19 1 rfl ?_
      refine V_selF (c := x1 = 1) (a := i2sI x2) hc3 ?_
      refine V_selF (c := x1 = 0) (a := i2bI x2) hc4 ?_
      exact k6
    · refine V_iload_n hX dX10_entry_14 1 rfl ?_
      refine V_i2s hX dX10_entry_15 ?_
      refine V_goto (tgt := 20) hX dX10_entry_16 (by decide) ?_
      refine V_selT (c := x1 = 1) (b := x2) hc3 ?_
      refine V_selF (c := x1 = 0) (a := i2bI x2) hc4 ?_
      exact k6
  · refine V_iload_n hX dX10_entry_4 1 rfl ?_
    refine V_i2b hX dX10_entry_5 ?_
    refine V_goto (tgt := 20) hX dX10_entry_6 (by decide) ?_
    refine V_selT (c := x1 = 0) (b := if x1 = 1 then i2sI x2 else x2) hc4 ?_
    exact k6
theorem c_X10_entry (l : Launch) (S : Sx) {r : Int32 × Wd} {F : Nat} {w : Wd} {x1 : Int32} {x2 : Int32}  (h : P_X10_entry F w x1 x2 = some r) : Met l yX10_entry (wsg yX10_entry cX10_entry 3 (some .int)) rm_X10_entry (PC S w [.int x1, .int x2]) (QCi S r) 0 0 (Aw S) :=
  met_i (by decide) rfl (Nat.le_of_ble_eq_true rfl) ⟨rfl, rfl⟩ (fun X hX hR => s_X10_entry  hX hR h)

-- MustNotStop.sheet(IIII)I
abbrev rm_X10_sheet : Room := { frames := 2, cells := 0, slots := 0, locals := 86 }
theorem nk_X10_sheet : MNk yX10_sheet RX10 4 := ⟨rfl, by decide, by decide, by decide +kernel⟩
def K_X10_sheet_110 (F : Nat) (x1 : Int32) (x2 : Int32) (x3 : Int32) (x4 : Int32) (x12 : Int32) (k119 : Wd → Option (Int32 × Wd)) (rc : Wd → Int32 → Option (Int32 × Wd)) (w : Wd) (x20 : Int32) (x21 : Int32) (x22 : Int32) : Option (Int32 × Wd) := bnv (P_X1_tire F w 23 x22 x21) (fun w23 => lt (x20 + 1 : Int32) (fun x24 => rc w23 x24))
set_option maxRecDepth 100000 in
set_option maxHeartbeats 4000000 in
theorem sK_X10_sheet_110 {X : Cx} {S : Sx} {r : Int32 × Wd} {F : Nat} {x1 : Int32} {x2 : Int32} {x3 : Int32} {x4 : Int32} {x12 : Int32} {k119 : Wd → Option (Int32 × Wd)} {rc : Wd → Int32 → Option (Int32 × Wd)} {w : Wd} {x20 : Int32} {x21 : Int32} {x22 : Int32} (hX : Ok X S cX10_sheet RX10 8 rm_X10_sheet) (hR : HRt X S cX10_sheet .int r)  (hk119 : ∀ (w : Wd), k119 w = some r → V X S w 119 [(0, rf S 0), (5, .int x12)] []) (hrc : ∀ (w : Wd) (x13 : Int32) , rc w x13 = some r → V X S w 44 [(0, rf S 0), (1, .int x1), (2, .int x2), (3, .int x3), (4, .int x4), (5, .int x12), (6, .int x13)] [])  (hP : K_X10_sheet_110 F x1 x2 x3 x4 x12 k119 rc w x20 x21 x22 = some r) : V X S w 110 [(0, rf S 0), (1, .int x1), (2, .int x2), (3, .int x3), (4, .int x4), (5, .int x12), (6, .int x20)] [.int x21, .int x22, rf S 23] := by
  unfold K_X10_sheet_110 at hP
  obtain ⟨w23, hcw23, hP⟩ := bnv_e hP
  refine V_callVv (As := [.int x22, .int x21]) (rest := []) hX mk_X10_164 nk_X1_tire (fun l => c_X1_tire l S (by decide) hcw23) tb_23 rfl ⟨rfl, rfl, Nat.le_of_ble_eq_true rfl, Nat.le_of_ble_eq_true rfl⟩ rfl rfl (Nat.le_of_ble_eq_true rfl) dX10_sheet_110 ?_
  obtain ⟨x24, ex24⟩ : ∃ y : Int32, y = x20 + 1 := ⟨_, rfl⟩
  replace hP := lt_r ex24 hP
  refine V_iinc (v := x24) (lv' := [(6, .int x24), (0, rf S 0), (1, .int x1), (2, .int x2), (3, .int x3), (4, .int x4), (5, .int x12)]) hX dX10_sheet_113 (j := 6) rfl (by decide) (by rw [ex24]; rfl) rfl ?_
  refine V_goto (tgt := 44) hX dX10_sheet_116 (by decide) ?_
  refine V_sub (lv' := [(0, rf S 0), (1, .int x1), (2, .int x2), (3, .int x3), (4, .int x4), (5, .int x12), (6, .int x24)]) [1, 2, 3, 4, 5, 6, 0] rfl ?_
  exact hrc _ _  hP
def K_X10_sheet_82 (F : Nat) (x1 : Int32) (x2 : Int32) (x3 : Int32) (x4 : Int32) (x12 : Int32) (k119 : Wd → Option (Int32 × Wd)) (rc : Wd → Int32 → Option (Int32 × Wd)) (w : Wd) (x17 : Int32) (x18 : Int32) : Option (Int32 × Wd) := (if x18 = 0 then K_X10_sheet_110 F x1 x2 x3 x4 x12 k119 rc w x17 0 x17 else bnd (P_X10_entry F w x1 (x3 + (x17 * x4))) (fun x26 w25 => K_X10_sheet_110 F x1 x2 x3 x4 x12 k119 rc w25 x17 x26 x17))
set_option maxRecDepth 100000 in
set_option maxHeartbeats 4000000 in
theorem sK_X10_sheet_82 {X : Cx} {S : Sx} {r : Int32 × Wd} {F : Nat} {x1 : Int32} {x2 : Int32} {x3 : Int32} {x4 : Int32} {x12 : Int32} {k119 : Wd → Option (Int32 × Wd)} {rc : Wd → Int32 → Option (Int32 × Wd)} {w : Wd} {x17 : Int32} {x18 : Int32} (hX : Ok X S cX10_sheet RX10 8 rm_X10_sheet) (hR : HRt X S cX10_sheet .int r)  (hk119 : ∀ (w : Wd), k119 w = some r → V X S w 119 [(0, rf S 0), (5, .int x12)] []) (hrc : ∀ (w : Wd) (x13 : Int32) , rc w x13 = some r → V X S w 44 [(0, rf S 0), (1, .int x1), (2, .int x2), (3, .int x3), (4, .int x4), (5, .int x12), (6, .int x13)] [])  (hP : K_X10_sheet_82 F x1 x2 x3 x4 x12 k119 rc w x17 x18 = some r) : V X S w 82 [(0, rf S 0), (1, .int x1), (2, .int x2), (3, .int x3), (4, .int x4), (5, .int x12), (6, .int x17)] [.int x18] := by
  unfold K_X10_sheet_82 at hP
  refine V_istore (lv' := [(7, .int x18), (0, rf S 0), (1, .int x1), (2, .int x2), (3, .int x3), (4, .int x4), (5, .int x12), (6, .int x17)]) hX dX10_sheet_82 (by decide) rfl ?_
  refine V_aload_n hX dX10_sheet_84 1 rfl ?_
  refine V_getF (j := 23) hX fk_X10_58 tb_0 (fun _ _ _ => rfl) dX10_sheet_85 ?_
  refine V_iload hX dX10_sheet_88 7 rfl ?_
  refine V_iload hX dX10_sheet_90 0 rfl ?_
  refine V_if_eq (tgt := 109) hX dX10_sheet_92 (by decide) (fun hc19 => ?_) (fun hc19 => ?_)
  · replace hP := ite_t hc19 hP
    refine V_iconst (v := 0) hX dX10_sheet_109 (by decide) ?_
    refine V_sub (lv' := [(0, rf S 0), (1, .int x1), (2, .int x2), (3, .int x3), (4, .int x4), (5, .int x12), (6, .int x17)]) [1, 2, 3, 4, 5, 6, 7] rfl ?_
    exact sK_X10_sheet_110 hX hR  hk119 hrc  hP
  · replace hP := ite_f hc19 hP
    refine V_iload_n hX dX10_sheet_95 2 rfl ?_
    refine V_iload_n hX dX10_sheet_96 4 rfl ?_
    refine V_iload hX dX10_sheet_97 7 rfl ?_
    refine V_iload hX dX10_sheet_99 5 rfl ?_
    refine V_imul hX dX10_sheet_101 ?_
    refine V_iadd hX dX10_sheet_102 ?_
    obtain ⟨x26, w25, hcw25, hP⟩ := bnd_e hP
    refine V_callSi (As := [.int x1, .int (x3 + (x17 * x4))]) (rest := [.int x17, rf S 23]) hX mk_X10_160 nk_X10_entry (fun l => c_X10_entry l S  hcw25) ⟨rfl, rfl, Nat.le_of_ble_eq_true rfl, Nat.le_of_ble_eq_true rfl⟩ rfl rfl (Nat.le_of_ble_eq_true rfl) dX10_sheet_103 ?_
    refine V_goto (tgt := 110) hX dX10_sheet_106 (by decide) ?_
    refine V_sub (lv' := [(0, rf S 0), (1, .int x1), (2, .int x2), (3, .int x3), (4, .int x4), (5, .int x12), (6, .int x17)]) [1, 2, 3, 4, 5, 6, 7] rfl ?_
    exact sK_X10_sheet_110 hX hR  hk119 hrc  hP
def K_X10_sheet_81 (F : Nat) (x1 : Int32) (x2 : Int32) (x3 : Int32) (x4 : Int32) (x12 : Int32) (k119 : Wd → Option (Int32 × Wd)) (rc : Wd → Int32 → Option (Int32 × Wd)) (w : Wd) (x16 : Int32) : Option (Int32 × Wd) := K_X10_sheet_82 F x1 x2 x3 x4 x12 k119 rc w x16 0
set_option maxRecDepth 100000 in
set_option maxHeartbeats 4000000 in
theorem sK_X10_sheet_81 {X : Cx} {S : Sx} {r : Int32 × Wd} {F : Nat} {x1 : Int32} {x2 : Int32} {x3 : Int32} {x4 : Int32} {x12 : Int32} {k119 : Wd → Option (Int32 × Wd)} {rc : Wd → Int32 → Option (Int32 × Wd)} {w : Wd} {x16 : Int32} (hX : Ok X S cX10_sheet RX10 8 rm_X10_sheet) (hR : HRt X S cX10_sheet .int r)  (hk119 : ∀ (w : Wd), k119 w = some r → V X S w 119 [(0, rf S 0), (5, .int x12)] []) (hrc : ∀ (w : Wd) (x13 : Int32) , rc w x13 = some r → V X S w 44 [(0, rf S 0), (1, .int x1), (2, .int x2), (3, .int x3), (4, .int x4), (5, .int x12), (6, .int x13)] [])  (hP : K_X10_sheet_81 F x1 x2 x3 x4 x12 k119 rc w x16 = some r) : V X S w 81 [(0, rf S 0), (1, .int x1), (2, .int x2), (3, .int x3), (4, .int x4), (5, .int x12), (6, .int x16)] [] := by
  unfold K_X10_sheet_81 at hP
  refine V_iconst (v := 0) hX dX10_sheet_81 (by decide) ?_
  exact sK_X10_sheet_82 hX hR  hk119 hrc  hP
def L_X10_sheet_44 (F : Nat) (x1 : Int32) (x2 : Int32) (x3 : Int32) (x4 : Int32) (x12 : Int32) (k119 : Wd → Option (Int32 × Wd)) : Nat → Wd → Int32 → Option (Int32 × Wd)
  | 0, _, _ => none
  | n + 1, w, x13 => (if (8 : Int32) ≤ x13 then k119 w  else (if x12 = 0 then (if x2 ≤ x13 then K_X10_sheet_81 F x1 x2 x3 x4 x12 k119 ((L_X10_sheet_44 F x1 x2 x3 x4 x12 k119 n)) w x13 else bnd (P_X5_has F w 6 x13) (fun x29 w28 => lt (if x29 = 0 then 0 else 1 : Int32) (fun x31 => (if x31 = 0 then K_X10_sheet_110 F x1 x2 x3 x4 x12 k119 ((L_X10_sheet_44 F x1 x2 x3 x4 x12 k119 n)) w28 x13 0 x13 else bnd (P_X10_entry F w28 x1 (x3 + (x13 * x4))) (fun x34 w33 => K_X10_sheet_110 F x1 x2 x3 x4 x12 k119 ((L_X10_sheet_44 F x1 x2 x3 x4 x12 k119 n)) w33 x13 x34 x13))))) else K_X10_sheet_81 F x1 x2 x3 x4 x12 k119 ((L_X10_sheet_44 F x1 x2 x3 x4 x12 k119 n)) w x13))
set_option maxRecDepth 100000 in
set_option maxHeartbeats 4000000 in
theorem sL_X10_sheet_44 {X : Cx} {S : Sx} {r : Int32 × Wd} {F : Nat} {x1 : Int32} {x2 : Int32} {x3 : Int32} {x4 : Int32} {x12 : Int32} {k119 : Wd → Option (Int32 × Wd)} (hX : Ok X S cX10_sheet RX10 8 rm_X10_sheet) (hR : HRt X S cX10_sheet .int r)  (hk119 : ∀ (w : Wd), k119 w = some r → V X S w 119 [(0, rf S 0), (5, .int x12)] []) : ∀ (n : Nat) (w : Wd) (x13 : Int32) , L_X10_sheet_44 F x1 x2 x3 x4 x12 k119 n w x13 = some r → V X S w 44 [(0, rf S 0), (1, .int x1), (2, .int x2), (3, .int x3), (4, .int x4), (5, .int x12), (6, .int x13)] [] := by
  intro n
  induction n with
  | zero =>
    intro w x13  hP
    exact nn hP
  | succ n ih =>
    intro w x13  hP
    rw [L_X10_sheet_44] at hP
    refine V_iload hX dX10_sheet_44 6 rfl ?_
    refine V_bipush (v := 8) hX dX10_sheet_46 (by decide) ?_
    refine V_icmp_ge (tgt := 119) hX dX10_sheet_48 (by decide) (fun hc14 => ?_) (fun hc14 => ?_)
    · replace hP := ite_t hc14 hP
      refine V_sub (lv' := [(0, rf S 0), (5, .int x12)]) [0, 5] rfl ?_
      exact hk119 _   hP
    · replace hP := ite_f hc14 hP
      refine V_iload hX dX10_sheet_51 5 rfl ?_
      refine V_if_ne (tgt := 81) hX dX10_sheet_53 (by decide) (fun hc15 => ?_) (fun hc15 => ?_)
      · replace hP := ite_f hc15 hP
        exact sK_X10_sheet_81 hX hR  hk119 ih  hP
      · replace hP := ite_t hc15 hP
        refine V_iload hX dX10_sheet_56 6 rfl ?_
        refine V_iload_n hX dX10_sheet_58 2 rfl ?_
        refine V_icmp_ge (tgt := 81) hX dX10_sheet_59 (by decide) (fun hc27 => ?_) (fun hc27 => ?_)
        · replace hP := ite_t hc27 hP
          exact sK_X10_sheet_81 hX hR  hk119 ih  hP
        · replace hP := ite_f hc27 hP
          refine V_aload_n hX dX10_sheet_62 0 rfl ?_
          refine V_getF (j := 5) hX fk_X10_34 tb_0 (fun _ _ _ => rfl) dX10_sheet_63 ?_
          refine V_getF (j := 6) hX fk_X10_38 tb_5 (fun _ _ _ => rfl) dX10_sheet_66 ?_
          refine V_iload hX dX10_sheet_69 6 rfl ?_
          obtain ⟨x29, w28, hcw28, hP⟩ := bnd_e hP
          refine V_callVi (As := [.int x13]) (rest := []) hX mk_X10_121 nk_X5_has (fun l => c_X5_has l S (by decide) hcw28) tb_6 rfl ⟨rfl, rfl, Nat.le_of_ble_eq_true rfl, Nat.le_of_ble_eq_true rfl⟩ rfl rfl (Nat.le_of_ble_eq_true rfl) dX10_sheet_71 ?_
          have k35 : V X S w28 82 [(0, rf S 0), (1, .int x1), (2, .int x2), (3, .int x3), (4, .int x4), (5, .int x12), (6, .int x13)] [.int (if x29 = 0 then 0 else 1)] := by
            refine V_topi (fun x31 ex31 => ?_)
            replace hP := lt_r ex31 hP
            refine V_istore (lv' := [(7, .int x31), (0, rf S 0), (1, .int x1), (2, .int x2), (3, .int x3), (4, .int x4), (5, .int x12), (6, .int x13)]) hX dX10_sheet_82 (by decide) rfl ?_
            refine V_aload_n hX dX10_sheet_84 1 rfl ?_
            refine V_getF (j := 23) hX fk_X10_58 tb_0 (fun _ _ _ => rfl) dX10_sheet_85 ?_
            refine V_iload hX dX10_sheet_88 7 rfl ?_
            refine V_iload hX dX10_sheet_90 0 rfl ?_
            refine V_if_eq (tgt := 109) hX dX10_sheet_92 (by decide) (fun hc32 => ?_) (fun hc32 => ?_)
            · replace hP := ite_t hc32 hP
              refine V_iconst (v := 0) hX dX10_sheet_109 (by decide) ?_
              refine V_sub (lv' := [(0, rf S 0), (1, .int x1), (2, .int x2), (3, .int x3), (4, .int x4), (5, .int x12), (6, .int x13)]) [1, 2, 3, 4, 5, 6, 7] rfl ?_
              exact sK_X10_sheet_110 hX hR  hk119 ih  hP
            · replace hP := ite_f hc32 hP
              refine V_iload_n hX dX10_sheet_95 2 rfl ?_
              refine V_iload_n hX dX10_sheet_96 4 rfl ?_
              refine V_iload hX dX10_sheet_97 7 rfl ?_
              refine V_iload hX dX10_sheet_99 5 rfl ?_
              refine V_imul hX dX10_sheet_101 ?_
              refine V_iadd hX dX10_sheet_102 ?_
              obtain ⟨x34, w33, hcw33, hP⟩ := bnd_e hP
              refine V_callSi (As := [.int x1, .int (x3 + (x13 * x4))]) (rest := [.int x13, rf S 23]) hX mk_X10_160 nk_X10_entry (fun l => c_X10_entry l S  hcw33) ⟨rfl, rfl, Nat.le_of_ble_eq_true rfl, Nat.le_of_ble_eq_true rfl⟩ rfl rfl (Nat.le_of_ble_eq_true rfl) dX10_sheet_103 ?_
              refine V_goto (tgt := 110) hX dX10_sheet_106 (by decide) ?_
              refine V_sub (lv' := [(0, rf S 0), (1, .int x1), (2, .int x2), (3, .int x3), (4, .int x4), (5, .int x12), (6, .int x13)]) [1, 2, 3, 4, 5, 6, 7] rfl ?_
              exact sK_X10_sheet_110 hX hR  hk119 ih  hP
          refine V_if_eq (tgt := 81) hX dX10_sheet_74 (by decide) (fun hc30 => ?_) (fun hc30 => ?_)
          · refine V_iconst (v := 0) hX dX10_sheet_81 (by decide) ?_
            refine V_selT (c := x29 = 0) (b := 1) hc30 ?_
            exact k35
          · refine V_iconst (v := 1) hX dX10_sheet_77 (by decide) ?_
            refine V_goto (tgt := 82) hX dX10_sheet_78 (by decide) ?_
            refine V_selF (c := x29 = 0) (a := 0) hc30 ?_
            exact k35
def K_X10_sheet_41 (F : Nat) (x1 : Int32) (x2 : Int32) (x3 : Int32) (x4 : Int32)  (w : Wd) (x11 : Int32) : Option (Int32 × Wd) := L_X10_sheet_44 F x1 x2 x3 x4 x11 (fun w  => (if x11 = 0 then bnd (P_X1_tiredTogether F w 23) (fun x38 w37 => some (x38, w37)) else some ((-3), w))) F w 0
set_option maxRecDepth 100000 in
set_option maxHeartbeats 4000000 in
theorem sK_X10_sheet_41 {X : Cx} {S : Sx} {r : Int32 × Wd} {F : Nat} {x1 : Int32} {x2 : Int32} {x3 : Int32} {x4 : Int32}  {w : Wd} {x11 : Int32} (hX : Ok X S cX10_sheet RX10 8 rm_X10_sheet) (hR : HRt X S cX10_sheet .int r)    (hP : K_X10_sheet_41 F x1 x2 x3 x4  w x11 = some r) : V X S w 41 [(0, rf S 0), (1, .int x1), (2, .int x2), (3, .int x3), (4, .int x4), (5, .int x11)] [] := by
  unfold K_X10_sheet_41 at hP
  refine V_iconst (v := 0) hX dX10_sheet_41 (by decide) ?_
  refine V_istore (lv' := [(6, .int 0), (0, rf S 0), (1, .int x1), (2, .int x2), (3, .int x3), (4, .int x4), (5, .int x11)]) hX dX10_sheet_42 (by decide) rfl ?_
  refine V_sub (lv' := [(0, rf S 0), (1, .int x1), (2, .int x2), (3, .int x3), (4, .int x4), (5, .int x11), (6, .int 0)]) [1, 2, 3, 4, 5, 6, 0] rfl ?_
  have k39 : ∀ (w : Wd)  , ((if x11 = 0 then bnd (P_X1_tiredTogether F w 23) (fun x38 w37 => some (x38, w37)) else some ((-3), w))) = some r → V X S w 119 [(0, rf S 0), (5, .int x11)] [] := by
    intro w   hP
    refine V_iload hX dX10_sheet_119 1 rfl ?_
    refine V_if_eq (tgt := 129) hX dX10_sheet_121 (by decide) (fun hc36 => ?_) (fun hc36 => ?_)
    · replace hP := ite_t hc36 hP
      refine V_aload_n hX dX10_sheet_129 0 rfl ?_
      refine V_getF (j := 23) hX fk_X10_58 tb_0 (fun _ _ _ => rfl) dX10_sheet_130 ?_
      obtain ⟨x38, w37, hcw37, hP⟩ := bnd_e hP
      refine V_callVi (As := []) (rest := []) hX mk_X10_168 nk_X1_tiredTogether (fun l => c_X1_tiredTogether l S (by decide) hcw37) tb_23 rfl ⟨rfl, rfl, Nat.le_of_ble_eq_true rfl, Nat.le_of_ble_eq_true rfl⟩ rfl rfl (Nat.le_of_ble_eq_true rfl) dX10_sheet_133 ?_
      exact hR _ _ _ _ (Option.some.inj hP) rfl dX10_sheet_136
    · replace hP := ite_f hc36 hP
      refine V_bipush (v := (-3)) hX dX10_sheet_124 (by decide) ?_
      refine V_goto (tgt := 136) hX dX10_sheet_126 (by decide) ?_
      exact hR _ _ _ _ (Option.some.inj hP) rfl dX10_sheet_136
  exact sL_X10_sheet_44 hX hR  k39 F _ _  hP
def P_X10_sheet (F : Nat) (w : Wd) (x1 : Int32) (x2 : Int32) (x3 : Int32) (x4 : Int32) : Option (Int32 × Wd) := (if x1 < 0 then some ((-1), w) else (if (3 : Int32) < x1 then some ((-1), w) else (if x2 ≤ 8 then lt (if x1 = 3 then 1 else 0 : Int32) (fun x9 => (if x9 = 0 then (if (0 : Int32) ≤ x2 then K_X10_sheet_41 F x1 x2 x3 x4  w x9 else some ((-2), w)) else K_X10_sheet_41 F x1 x2 x3 x4  w x9)) else some ((-1), w))))
set_option maxRecDepth 100000 in
set_option maxHeartbeats 4000000 in
theorem s_X10_sheet {X : Cx} {S : Sx} {r : Int32 × Wd} {F : Nat} {w : Wd} {x1 : Int32} {x2 : Int32} {x3 : Int32} {x4 : Int32}  (hX : Ok X S cX10_sheet RX10 8 rm_X10_sheet) (hR : HRt X S cX10_sheet .int r) (hP : P_X10_sheet F w x1 x2 x3 x4 = some r) : V X S w 0 [(0, rf S 0), (1, .int x1), (2, .int x2), (3, .int x3), (4, .int x4)] [] := by
  unfold P_X10_sheet at hP
  refine V_iload_n hX dX10_sheet_0 1 rfl ?_
  refine V_if_lt (tgt := 15) hX dX10_sheet_1 (by decide) (fun hc5 => ?_) (fun hc5 => ?_)
  · replace hP := ite_t hc5 hP
    refine V_iconst (v := (-1)) hX dX10_sheet_15 (by decide) ?_
    exact hR _ _ _ _ (Option.some.inj hP) rfl dX10_sheet_16
  · replace hP := ite_f hc5 hP
    refine V_iload_n hX dX10_sheet_4 1 rfl ?_
    refine V_iconst (v := 3) hX dX10_sheet_5 (by decide) ?_
    refine V_icmp_gt (tgt := 15) hX dX10_sheet_6 (by decide) (fun hc6 => ?_) (fun hc6 => ?_)
    · replace hP := ite_t hc6 hP
      refine V_iconst (v := (-1)) hX dX10_sheet_15 (by decide) ?_
      exact hR _ _ _ _ (Option.some.inj hP) rfl dX10_sheet_16
    · replace hP := ite_f hc6 hP
      refine V_iload_n hX dX10_sheet_9 2 rfl ?_
      refine V_bipush (v := 8) hX dX10_sheet_10 (by decide) ?_
      refine V_icmp_le (tgt := 17) hX dX10_sheet_12 (by decide) (fun hc7 => ?_) (fun hc7 => ?_)
      · replace hP := ite_t hc7 hP
        refine V_iload_n hX dX10_sheet_17 1 rfl ?_
        refine V_iconst (v := 3) hX dX10_sheet_18 (by decide) ?_
        have k41 : V X S w 27 [(0, rf S 0), (1, .int x1), (2, .int x2), (3, .int x3), (4, .int x4)] [.int (if x1 = 3 then 1 else 0)] := by
          refine V_topi (fun x9 ex9 => ?_)
          replace hP := lt_r ex9 hP
          refine V_istore (lv' := [(5, .int x9), (0, rf S 0), (1, .int x1), (2, .int x2), (3, .int x3), (4, .int x4)]) hX dX10_sheet_27 (by decide) rfl ?_
          refine V_iload hX dX10_sheet_29 0 rfl ?_
          refine V_if_ne (tgt := 41) hX dX10_sheet_31 (by decide) (fun hc10 => ?_) (fun hc10 => ?_)
          · replace hP := ite_f hc10 hP
            refine V_sub (lv' := [(0, rf S 0), (1, .int x1), (2, .int x2), (3, .int x3), (4, .int x4), (5, .int x9)]) [1, 2, 3, 4, 5, 0] rfl ?_
            exact sK_X10_sheet_41 hX hR    hP
          · replace hP := ite_t hc10 hP
            refine V_iload_n hX dX10_sheet_34 3 rfl ?_
            refine V_if_ge (tgt := 41) hX dX10_sheet_35 (by decide) (fun hc40 => ?_) (fun hc40 => ?_)
            · replace hP := ite_t hc40 hP
              refine V_sub (lv' := [(0, rf S 0), (1, .int x1), (2, .int x2), (3, .int x3), (4, .int x4), (5, .int x9)]) [1, 2, 3, 4, 5, 0] rfl ?_
              exact sK_X10_sheet_41 hX hR    hP
            · replace hP := ite_f hc40 hP
              refine V_bipush (v := (-2)) hX dX10_sheet_38 (by decide) ?_
              exact hR _ _ _ _ (Option.some.inj hP) rfl dX10_sheet_40
        refine V_icmp_ne (tgt := 26) hX dX10_sheet_19 (by decide) (fun hc8 => ?_) (fun hc8 => ?_)
        · refine V_iconst (v := 0) hX dX10_sheet_26 (by decide) ?_
          refine V_selF (c := x1 = 3) (a := 1) hc8 ?_
          exact k41
        · refine V_iconst (v := 1) hX dX10_sheet_22 (by decide) ?_
          refine V_goto (tgt := 27) hX dX10_sheet_23 (by decide) ?_
          refine V_selT (c := x1 = 3) (b := 0) hc8 ?_
          exact k41
      · replace hP := ite_f hc7 hP
        refine V_iconst (v := (-1)) hX dX10_sheet_15 (by decide) ?_
        exact hR _ _ _ _ (Option.some.inj hP) rfl dX10_sheet_16
theorem c_X10_sheet (l : Launch) (S : Sx) {r : Int32 × Wd} {F : Nat} {w : Wd} {x1 : Int32} {x2 : Int32} {x3 : Int32} {x4 : Int32}  (h : P_X10_sheet F w x1 x2 x3 x4 = some r) : Met l yX10_sheet (wsg yX10_sheet cX10_sheet 8 (some .int)) rm_X10_sheet (PC S w [rf S 0, .int x1, .int x2, .int x3, .int x4]) (QCi S r) 0 0 (Aw S) :=
  met_i (by decide) rfl (Nat.le_of_ble_eq_true rfl) ⟨rfl, rfl⟩ (fun X hX hR => s_X10_sheet  hX hR h)

-- MustNotStop.grasp(I)I
abbrev rm_X10_grasp : Room := { frames := 2, cells := 0, slots := 0, locals := 85 }
theorem nk_X10_grasp : MNk yX10_grasp RX10 1 := ⟨rfl, by decide, by decide, by decide +kernel⟩
def P_X10_grasp (F : Nat) (w : Wd) (x1 : Int32) : Option (Int32 × Wd) := bnd (P_X5_has F w 6 x1) (fun x3 w2 => (if x3 = 0 then some ((-1), w2) else bnd (P_X1_holds F w2 23 x1) (fun x6 w5 => (if x6 = 0 then bnd (P_J6_bitCount_0f7a4 F w5 (gI w5 23 1)) (fun x9 w8 => (if x9 < 3 then lt (sI w8 23 1 ((gI w8 23 1) ||| (ishlI 1 x1))) (fun w11 => bnd (P_J6_bitCount_0f7a4 F w11 (gI w11 23 1)) (fun x13 w12 => some (x13, w12))) else some ((-3), w8))) else some ((-2), w5)))))
set_option maxRecDepth 100000 in
set_option maxHeartbeats 4000000 in
theorem s_X10_grasp {X : Cx} {S : Sx} {r : Int32 × Wd} {F : Nat} {w : Wd} {x1 : Int32}  (hX : Ok X S cX10_grasp RX10 2 rm_X10_grasp) (hR : HRt X S cX10_grasp .int r) (hP : P_X10_grasp F w x1 = some r) : V X S w 0 [(0, rf S 0), (1, .int x1)] [] := by
  unfold P_X10_grasp at hP
  refine V_aload_n hX dX10_grasp_0 0 rfl ?_
  refine V_getF (j := 5) hX fk_X10_34 tb_0 (fun _ _ _ => rfl) dX10_grasp_1 ?_
  refine V_getF (j := 6) hX fk_X10_38 tb_5 (fun _ _ _ => rfl) dX10_grasp_4 ?_
  refine V_iload_n hX dX10_grasp_7 1 rfl ?_
  obtain ⟨x3, w2, hcw2, hP⟩ := bnd_e hP
  refine V_callVi (As := [.int x1]) (rest := []) hX mk_X10_121 nk_X5_has (fun l => c_X5_has l S (by decide) hcw2) tb_6 rfl ⟨rfl, rfl, Nat.le_of_ble_eq_true rfl, Nat.le_of_ble_eq_true rfl⟩ rfl rfl (Nat.le_of_ble_eq_true rfl) dX10_grasp_8 ?_
  refine V_if_ne (tgt := 16) hX dX10_grasp_11 (by decide) (fun hc4 => ?_) (fun hc4 => ?_)
  · replace hP := ite_f hc4 hP
    refine V_aload_n hX dX10_grasp_16 0 rfl ?_
    refine V_getF (j := 23) hX fk_X10_58 tb_0 (fun _ _ _ => rfl) dX10_grasp_17 ?_
    refine V_iload_n hX dX10_grasp_20 1 rfl ?_
    obtain ⟨x6, w5, hcw5, hP⟩ := bnd_e hP
    refine V_callVi (As := [.int x1]) (rest := []) hX mk_X10_138 nk_X1_holds (fun l => c_X1_holds l S (by decide) hcw5) tb_23 rfl ⟨rfl, rfl, Nat.le_of_ble_eq_true rfl, Nat.le_of_ble_eq_true rfl⟩ rfl rfl (Nat.le_of_ble_eq_true rfl) dX10_grasp_21 ?_
    refine V_if_eq (tgt := 30) hX dX10_grasp_24 (by decide) (fun hc7 => ?_) (fun hc7 => ?_)
    · replace hP := ite_t hc7 hP
      refine V_aload_n hX dX10_grasp_30 0 rfl ?_
      refine V_getF (j := 23) hX fk_X10_58 tb_0 (fun _ _ _ => rfl) dX10_grasp_31 ?_
      refine V_getI hX fk_X10_148 tb_23 (fun _ _ _ => rfl) dX10_grasp_34 ?_
      obtain ⟨x9, w8, hcw8, hP⟩ := bnd_e hP
      refine V_callSi (As := [.int (gI w5 23 1)]) (rest := []) hX mk_X10_228 nk_J6_bitCount_0f7a4 (fun l => c_J6_bitCount_0f7a4 l S  hcw8) ⟨rfl, rfl, Nat.le_of_ble_eq_true rfl, Nat.le_of_ble_eq_true rfl⟩ rfl rfl (Nat.le_of_ble_eq_true rfl) dX10_grasp_37 ?_
      refine V_iconst (v := 3) hX dX10_grasp_40 (by decide) ?_
      refine V_icmp_lt (tgt := 47) hX dX10_grasp_41 (by decide) (fun hc10 => ?_) (fun hc10 => ?_)
      · replace hP := ite_t hc10 hP
        refine V_aload_n hX dX10_grasp_47 0 rfl ?_
        refine V_getF (j := 23) hX fk_X10_58 tb_0 (fun _ _ _ => rfl) dX10_grasp_48 ?_
        refine V_dup hX dX10_grasp_51 rfl ?_
        refine V_getI hX fk_X10_148 tb_23 (fun _ _ _ => rfl) dX10_grasp_52 ?_
        refine V_iconst (v := 1) hX dX10_grasp_55 (by decide) ?_
        refine V_iload_n hX dX10_grasp_56 1 rfl ?_
        refine V_ishl hX dX10_grasp_57 ?_
        refine V_ior hX dX10_grasp_58 ?_
        refine V_putI hX fw_X10_148 tb_23 (fun _ _ _ => ⟨Nat.le_of_ble_eq_true rfl, rfl⟩) dX10_grasp_59 (fun w11 ew11 => ?_)
        replace hP := lt_r ew11 hP
        refine V_aload_n hX dX10_grasp_62 0 rfl ?_
        refine V_getF (j := 23) hX fk_X10_58 tb_0 (fun _ _ _ => rfl) dX10_grasp_63 ?_
        refine V_getI hX fk_X10_148 tb_23 (fun _ _ _ => rfl) dX10_grasp_66 ?_
        obtain ⟨x13, w12, hcw12, hP⟩ := bnd_e hP
        refine V_callSi (As := [.int (gI w11 23 1)]) (rest := []) hX mk_X10_228 nk_J6_bitCount_0f7a4 (fun l => c_J6_bitCount_0f7a4 l S  hcw12) ⟨rfl, rfl, Nat.le_of_ble_eq_true rfl, Nat.le_of_ble_eq_true rfl⟩ rfl rfl (Nat.le_of_ble_eq_true rfl) dX10_grasp_69 ?_
        exact hR _ _ _ _ (Option.some.inj hP) rfl dX10_grasp_72
      · replace hP := ite_f hc10 hP
        refine V_bipush (v := (-3)) hX dX10_grasp_44 (by decide) ?_
        exact hR _ _ _ _ (Option.some.inj hP) rfl dX10_grasp_46
    · replace hP := ite_f hc7 hP
      refine V_bipush (v := (-2)) hX dX10_grasp_27 (by decide) ?_
      exact hR _ _ _ _ (Option.some.inj hP) rfl dX10_grasp_29
  · replace hP := ite_t hc4 hP
    refine V_iconst (v := (-1)) hX dX10_grasp_14 (by decide) ?_
    exact hR _ _ _ _ (Option.some.inj hP) rfl dX10_grasp_15
theorem c_X10_grasp (l : Launch) (S : Sx) {r : Int32 × Wd} {F : Nat} {w : Wd} {x1 : Int32}  (h : P_X10_grasp F w x1 = some r) : Met l yX10_grasp (wsg yX10_grasp cX10_grasp 2 (some .int)) rm_X10_grasp (PC S w [rf S 0, .int x1]) (QCi S r) 0 0 (Aw S) :=
  met_i (by decide) rfl (Nat.le_of_ble_eq_true rfl) ⟨rfl, rfl⟩ (fun X hX hR => s_X10_grasp  hX hR h)

-- MustNotStop.remembered(I)I
abbrev rm_X10_remembered : Room := { frames := 3, cells := 0, slots := 0, locals := 107 }
theorem nk_X10_remembered : MNk yX10_remembered RX10 1 := ⟨rfl, by decide, by decide, by decide +kernel⟩
def P_X10_remembered (F : Nat) (w : Wd) (x1 : Int32) : Option (Int32 × Wd) := (if x1 < 0 then some (x1, w) else bnv (P_X4_push F w 27) (fun w3 => some (x1, w3)))
set_option maxRecDepth 100000 in
set_option maxHeartbeats 4000000 in
theorem s_X10_remembered {X : Cx} {S : Sx} {r : Int32 × Wd} {F : Nat} {w : Wd} {x1 : Int32}  (hX : Ok X S cX10_remembered RX10 2 rm_X10_remembered) (hR : HRt X S cX10_remembered .int r) (hP : P_X10_remembered F w x1 = some r) : V X S w 0 [(0, rf S 0), (1, .int x1)] [] := by
  unfold P_X10_remembered at hP
  refine V_iload_n hX dX10_remembered_0 1 rfl ?_
  refine V_if_lt (tgt := 15) hX dX10_remembered_1 (by decide) (fun hc2 => ?_) (fun hc2 => ?_)
  · replace hP := ite_t hc2 hP
    refine V_iload_n hX dX10_remembered_15 1 rfl ?_
    exact hR _ _ _ _ (Option.some.inj hP) rfl dX10_remembered_16
  · replace hP := ite_f hc2 hP
    refine V_aload_n hX dX10_remembered_4 0 rfl ?_
    refine V_getF (j := 29) hX fk_X10_71 tb_0 (fun _ _ _ => rfl) dX10_remembered_5 ?_
    refine V_aload_n hX dX10_remembered_8 0 rfl ?_
    refine V_getF (j := 27) hX fk_X10_65 tb_0 (fun _ _ _ => rfl) dX10_remembered_9 ?_
    obtain ⟨w3, hcw3, hP⟩ := bnv_e hP
    refine V_callVv (As := [rf S 27]) (rest := []) hX mk_X10_216 nk_X4_push (fun l => c_X4_push l S (by decide) hcw3) tb_29 rfl ⟨rfl, rfl, Nat.le_of_ble_eq_true rfl, Nat.le_of_ble_eq_true rfl⟩ rfl rfl (Nat.le_of_ble_eq_true rfl) dX10_remembered_12 ?_
    refine V_iload_n hX dX10_remembered_15 1 rfl ?_
    exact hR _ _ _ _ (Option.some.inj hP) rfl dX10_remembered_16
theorem c_X10_remembered (l : Launch) (S : Sx) {r : Int32 × Wd} {F : Nat} {w : Wd} {x1 : Int32}  (h : P_X10_remembered F w x1 = some r) : Met l yX10_remembered (wsg yX10_remembered cX10_remembered 2 (some .int)) rm_X10_remembered (PC S w [rf S 0, .int x1]) (QCi S r) 0 0 (Aw S) :=
  met_i (by decide) rfl (Nat.le_of_ble_eq_true rfl) ⟨rfl, rfl⟩ (fun X hX hR => s_X10_remembered  hX hR h)

-- MustNotStop.take(I)I
abbrev rm_X10_take : Room := { frames := 4, cells := 0, slots := 0, locals := 128 }
theorem nk_X10_take : MNk yX10_take RX10 1 := ⟨rfl, by decide, by decide, by decide +kernel⟩
def P_X10_take (F : Nat) (w : Wd) (x1 : Int32) : Option (Int32 × Wd) := bnv (P_X1_copy F w 27 23) (fun w2 => bnd (P_X10_grasp F w2 x1) (fun x4 w3 => bnd (P_X10_remembered F w3 x4) (fun x6 w5 => some (x6, w5))))
set_option maxRecDepth 100000 in
set_option maxHeartbeats 4000000 in
theorem s_X10_take {X : Cx} {S : Sx} {r : Int32 × Wd} {F : Nat} {w : Wd} {x1 : Int32}  (hX : Ok X S cX10_take RX10 2 rm_X10_take) (hR : HRt X S cX10_take .int r) (hP : P_X10_take F w x1 = some r) : V X S w 0 [(0, rf S 0), (1, .int x1)] [] := by
  unfold P_X10_take at hP
  refine V_aload_n hX dX10_take_0 0 rfl ?_
  refine V_getF (j := 27) hX fk_X10_65 tb_0 (fun _ _ _ => rfl) dX10_take_1 ?_
  refine V_aload_n hX dX10_take_4 0 rfl ?_
  refine V_getF (j := 23) hX fk_X10_58 tb_0 (fun _ _ _ => rfl) dX10_take_5 ?_
  obtain ⟨w2, hcw2, hP⟩ := bnv_e hP
  refine V_callVv (As := [rf S 23]) (rest := []) hX mk_X10_180 nk_X1_copy (fun l => c_X1_copy l S (by decide) (by decide) hcw2) tb_27 rfl ⟨rfl, rfl, Nat.le_of_ble_eq_true rfl, Nat.le_of_ble_eq_true rfl⟩ rfl rfl (Nat.le_of_ble_eq_true rfl) dX10_take_8 ?_
  refine V_aload_n hX dX10_take_11 0 rfl ?_
  refine V_aload_n hX dX10_take_12 0 rfl ?_
  refine V_iload_n hX dX10_take_13 1 rfl ?_
  obtain ⟨x4, w3, hcw3, hP⟩ := bnd_e hP
  refine V_callVi (As := [.int x1]) (rest := [rf S 0]) hX mk_X10_184 nk_X10_grasp (fun l => c_X10_grasp l S  hcw3) tb_0 rfl ⟨rfl, rfl, Nat.le_of_ble_eq_true rfl, Nat.le_of_ble_eq_true rfl⟩ rfl rfl (Nat.le_of_ble_eq_true rfl) dX10_take_14 ?_
  obtain ⟨x6, w5, hcw5, hP⟩ := bnd_e hP
  refine V_callVi (As := [.int x4]) (rest := []) hX mk_X10_187 nk_X10_remembered (fun l => c_X10_remembered l S  hcw5) tb_0 rfl ⟨rfl, rfl, Nat.le_of_ble_eq_true rfl, Nat.le_of_ble_eq_true rfl⟩ rfl rfl (Nat.le_of_ble_eq_true rfl) dX10_take_17 ?_
  exact hR _ _ _ _ (Option.some.inj hP) rfl dX10_take_20
theorem c_X10_take (l : Launch) (S : Sx) {r : Int32 × Wd} {F : Nat} {w : Wd} {x1 : Int32}  (h : P_X10_take F w x1 = some r) : Met l yX10_take (wsg yX10_take cX10_take 2 (some .int)) rm_X10_take (PC S w [rf S 0, .int x1]) (QCi S r) 0 0 (Aw S) :=
  met_i (by decide) rfl (Nat.le_of_ble_eq_true rfl) ⟨rfl, rfl⟩ (fun X hX hR => s_X10_take  hX hR h)

-- MustNotStop.letGo(I)I
abbrev rm_X10_letGo : Room := { frames := 2, cells := 0, slots := 0, locals := 85 }
theorem nk_X10_letGo : MNk yX10_letGo RX10 1 := ⟨rfl, by decide, by decide, by decide +kernel⟩
def P_X10_letGo (F : Nat) (w : Wd) (x1 : Int32) : Option (Int32 × Wd) := bnd (P_X5_has F w 6 x1) (fun x3 w2 => (if x3 = 0 then some ((-1), w2) else bnd (P_X1_holds F w2 23 x1) (fun x6 w5 => (if x6 = 0 then some ((-2), w5) else lt (sI w5 23 1 ((gI w5 23 1) &&& ((ishlI 1 x1) ^^^ ((-1))))) (fun w8 => bnd (P_J6_bitCount_0f7a4 F w8 (gI w8 23 1)) (fun x10 w9 => some (x10, w9)))))))
set_option maxRecDepth 100000 in
set_option maxHeartbeats 4000000 in
theorem s_X10_letGo {X : Cx} {S : Sx} {r : Int32 × Wd} {F : Nat} {w : Wd} {x1 : Int32}  (hX : Ok X S cX10_letGo RX10 2 rm_X10_letGo) (hR : HRt X S cX10_letGo .int r) (hP : P_X10_letGo F w x1 = some r) : V X S w 0 [(0, rf S 0), (1, .int x1)] [] := by
  unfold P_X10_letGo at hP
  refine V_aload_n hX dX10_letGo_0 0 rfl ?_
  refine V_getF (j := 5) hX fk_X10_34 tb_0 (fun _ _ _ => rfl) dX10_letGo_1 ?_
  refine V_getF (j := 6) hX fk_X10_38 tb_5 (fun _ _ _ => rfl) dX10_letGo_4 ?_
  refine V_iload_n hX dX10_letGo_7 1 rfl ?_
  obtain ⟨x3, w2, hcw2, hP⟩ := bnd_e hP
  refine V_callVi (As := [.int x1]) (rest := []) hX mk_X10_121 nk_X5_has (fun l => c_X5_has l S (by decide) hcw2) tb_6 rfl ⟨rfl, rfl, Nat.le_of_ble_eq_true rfl, Nat.le_of_ble_eq_true rfl⟩ rfl rfl (Nat.le_of_ble_eq_true rfl) dX10_letGo_8 ?_
  refine V_if_ne (tgt := 16) hX dX10_letGo_11 (by decide) (fun hc4 => ?_) (fun hc4 => ?_)
  · replace hP := ite_f hc4 hP
    refine V_aload_n hX dX10_letGo_16 0 rfl ?_
    refine V_getF (j := 23) hX fk_X10_58 tb_0 (fun _ _ _ => rfl) dX10_letGo_17 ?_
    refine V_iload_n hX dX10_letGo_20 1 rfl ?_
    obtain ⟨x6, w5, hcw5, hP⟩ := bnd_e hP
    refine V_callVi (As := [.int x1]) (rest := []) hX mk_X10_138 nk_X1_holds (fun l => c_X1_holds l S (by decide) hcw5) tb_23 rfl ⟨rfl, rfl, Nat.le_of_ble_eq_true rfl, Nat.le_of_ble_eq_true rfl⟩ rfl rfl (Nat.le_of_ble_eq_true rfl) dX10_letGo_21 ?_
    refine V_if_ne (tgt := 30) hX dX10_letGo_24 (by decide) (fun hc7 => ?_) (fun hc7 => ?_)
    · replace hP := ite_f hc7 hP
      refine V_aload_n hX dX10_letGo_30 0 rfl ?_
      refine V_getF (j := 23) hX fk_X10_58 tb_0 (fun _ _ _ => rfl) dX10_letGo_31 ?_
      refine V_dup hX dX10_letGo_34 rfl ?_
      refine V_getI hX fk_X10_148 tb_23 (fun _ _ _ => rfl) dX10_letGo_35 ?_
      refine V_iconst (v := 1) hX dX10_letGo_38 (by decide) ?_
      refine V_iload_n hX dX10_letGo_39 1 rfl ?_
      refine V_ishl hX dX10_letGo_40 ?_
      refine V_iconst (v := (-1)) hX dX10_letGo_41 (by decide) ?_
      refine V_ixor hX dX10_letGo_42 ?_
      refine V_iand hX dX10_letGo_43 ?_
      refine V_putI hX fw_X10_148 tb_23 (fun _ _ _ => ⟨Nat.le_of_ble_eq_true rfl, rfl⟩) dX10_letGo_44 (fun w8 ew8 => ?_)
      replace hP := lt_r ew8 hP
      refine V_aload_n hX dX10_letGo_47 0 rfl ?_
      refine V_getF (j := 23) hX fk_X10_58 tb_0 (fun _ _ _ => rfl) dX10_letGo_48 ?_
      refine V_getI hX fk_X10_148 tb_23 (fun _ _ _ => rfl) dX10_letGo_51 ?_
      obtain ⟨x10, w9, hcw9, hP⟩ := bnd_e hP
      refine V_callSi (As := [.int (gI w8 23 1)]) (rest := []) hX mk_X10_228 nk_J6_bitCount_0f7a4 (fun l => c_J6_bitCount_0f7a4 l S  hcw9) ⟨rfl, rfl, Nat.le_of_ble_eq_true rfl, Nat.le_of_ble_eq_true rfl⟩ rfl rfl (Nat.le_of_ble_eq_true rfl) dX10_letGo_54 ?_
      exact hR _ _ _ _ (Option.some.inj hP) rfl dX10_letGo_57
    · replace hP := ite_t hc7 hP
      refine V_bipush (v := (-2)) hX dX10_letGo_27 (by decide) ?_
      exact hR _ _ _ _ (Option.some.inj hP) rfl dX10_letGo_29
  · replace hP := ite_t hc4 hP
    refine V_iconst (v := (-1)) hX dX10_letGo_14 (by decide) ?_
    exact hR _ _ _ _ (Option.some.inj hP) rfl dX10_letGo_15
theorem c_X10_letGo (l : Launch) (S : Sx) {r : Int32 × Wd} {F : Nat} {w : Wd} {x1 : Int32}  (h : P_X10_letGo F w x1 = some r) : Met l yX10_letGo (wsg yX10_letGo cX10_letGo 2 (some .int)) rm_X10_letGo (PC S w [rf S 0, .int x1]) (QCi S r) 0 0 (Aw S) :=
  met_i (by decide) rfl (Nat.le_of_ble_eq_true rfl) ⟨rfl, rfl⟩ (fun X hX hR => s_X10_letGo  hX hR h)

-- MustNotStop.leave(I)I
abbrev rm_X10_leave : Room := { frames := 4, cells := 0, slots := 0, locals := 128 }
theorem nk_X10_leave : MNk yX10_leave RX10 1 := ⟨rfl, by decide, by decide, by decide +kernel⟩
def P_X10_leave (F : Nat) (w : Wd) (x1 : Int32) : Option (Int32 × Wd) := bnv (P_X1_copy F w 27 23) (fun w2 => bnd (P_X10_letGo F w2 x1) (fun x4 w3 => bnd (P_X10_remembered F w3 x4) (fun x6 w5 => some (x6, w5))))
set_option maxRecDepth 100000 in
set_option maxHeartbeats 4000000 in
theorem s_X10_leave {X : Cx} {S : Sx} {r : Int32 × Wd} {F : Nat} {w : Wd} {x1 : Int32}  (hX : Ok X S cX10_leave RX10 2 rm_X10_leave) (hR : HRt X S cX10_leave .int r) (hP : P_X10_leave F w x1 = some r) : V X S w 0 [(0, rf S 0), (1, .int x1)] [] := by
  unfold P_X10_leave at hP
  refine V_aload_n hX dX10_leave_0 0 rfl ?_
  refine V_getF (j := 27) hX fk_X10_65 tb_0 (fun _ _ _ => rfl) dX10_leave_1 ?_
  refine V_aload_n hX dX10_leave_4 0 rfl ?_
  refine V_getF (j := 23) hX fk_X10_58 tb_0 (fun _ _ _ => rfl) dX10_leave_5 ?_
  obtain ⟨w2, hcw2, hP⟩ := bnv_e hP
  refine V_callVv (As := [rf S 23]) (rest := []) hX mk_X10_180 nk_X1_copy (fun l => c_X1_copy l S (by decide) (by decide) hcw2) tb_27 rfl ⟨rfl, rfl, Nat.le_of_ble_eq_true rfl, Nat.le_of_ble_eq_true rfl⟩ rfl rfl (Nat.le_of_ble_eq_true rfl) dX10_leave_8 ?_
  refine V_aload_n hX dX10_leave_11 0 rfl ?_
  refine V_aload_n hX dX10_leave_12 0 rfl ?_
  refine V_iload_n hX dX10_leave_13 1 rfl ?_
  obtain ⟨x4, w3, hcw3, hP⟩ := bnd_e hP
  refine V_callVi (As := [.int x1]) (rest := [rf S 0]) hX mk_X10_190 nk_X10_letGo (fun l => c_X10_letGo l S  hcw3) tb_0 rfl ⟨rfl, rfl, Nat.le_of_ble_eq_true rfl, Nat.le_of_ble_eq_true rfl⟩ rfl rfl (Nat.le_of_ble_eq_true rfl) dX10_leave_14 ?_
  obtain ⟨x6, w5, hcw5, hP⟩ := bnd_e hP
  refine V_callVi (As := [.int x4]) (rest := []) hX mk_X10_187 nk_X10_remembered (fun l => c_X10_remembered l S  hcw5) tb_0 rfl ⟨rfl, rfl, Nat.le_of_ble_eq_true rfl, Nat.le_of_ble_eq_true rfl⟩ rfl rfl (Nat.le_of_ble_eq_true rfl) dX10_leave_17 ?_
  exact hR _ _ _ _ (Option.some.inj hP) rfl dX10_leave_20
theorem c_X10_leave (l : Launch) (S : Sx) {r : Int32 × Wd} {F : Nat} {w : Wd} {x1 : Int32}  (h : P_X10_leave F w x1 = some r) : Met l yX10_leave (wsg yX10_leave cX10_leave 2 (some .int)) rm_X10_leave (PC S w [rf S 0, .int x1]) (QCi S r) 0 0 (Aw S) :=
  met_i (by decide) rfl (Nat.le_of_ble_eq_true rfl) ⟨rfl, rfl⟩ (fun X hX hR => s_X10_leave  hX hR h)

-- MustNotStop.splice(I)I
abbrev rm_X10_splice : Room := { frames := 1, cells := 0, slots := 0, locals := 64 }
theorem nk_X10_splice : MNk yX10_splice RX10 1 := ⟨rfl, by decide, by decide, by decide +kernel⟩
def P_X10_splice (F : Nat) (w : Wd) (x1 : Int32) : Option (Int32 × Wd) := (if x1 < 1 then some ((-1), w) else (if x1 ≤ 99 then lt (sI w 23 2 (minI 99 ((gI w 23 2) + x1))) (fun w4 => some (gI w4 23 2, w4)) else some ((-1), w)))
set_option maxRecDepth 100000 in
set_option maxHeartbeats 4000000 in
theorem s_X10_splice {X : Cx} {S : Sx} {r : Int32 × Wd} {F : Nat} {w : Wd} {x1 : Int32}  (hX : Ok X S cX10_splice RX10 2 rm_X10_splice) (hR : HRt X S cX10_splice .int r) (hP : P_X10_splice F w x1 = some r) : V X S w 0 [(0, rf S 0), (1, .int x1)] [] := by
  unfold P_X10_splice at hP
  refine V_iload_n hX dX10_splice_0 1 rfl ?_
  refine V_iconst (v := 1) hX dX10_splice_1 (by decide) ?_
  refine V_icmp_lt (tgt := 11) hX dX10_splice_2 (by decide) (fun hc2 => ?_) (fun hc2 => ?_)
  · replace hP := ite_t hc2 hP
    refine V_iconst (v := (-1)) hX dX10_splice_11 (by decide) ?_
    exact hR _ _ _ _ (Option.some.inj hP) rfl dX10_splice_12
  · replace hP := ite_f hc2 hP
    refine V_iload_n hX dX10_splice_5 1 rfl ?_
    refine V_bipush (v := 99) hX dX10_splice_6 (by decide) ?_
    refine V_icmp_le (tgt := 13) hX dX10_splice_8 (by decide) (fun hc3 => ?_) (fun hc3 => ?_)
    · replace hP := ite_t hc3 hP
      refine V_aload_n hX dX10_splice_13 0 rfl ?_
      refine V_getF (j := 23) hX fk_X10_58 tb_0 (fun _ _ _ => rfl) dX10_splice_14 ?_
      refine V_bipush (v := 99) hX dX10_splice_17 (by decide) ?_
      refine V_aload_n hX dX10_splice_19 0 rfl ?_
      refine V_getF (j := 23) hX fk_X10_58 tb_0 (fun _ _ _ => rfl) dX10_splice_20 ?_
      refine V_getI hX fk_X10_233 tb_23 (fun _ _ _ => rfl) dX10_splice_23 ?_
      refine V_iload_n hX dX10_splice_26 1 rfl ?_
      refine V_iadd hX dX10_splice_27 ?_
      refine V_min hX mk_X10_172 ⟨Nat.le_of_ble_eq_true rfl, Nat.le_of_ble_eq_true rfl⟩ dX10_splice_28 ?_
      refine V_putI hX fw_X10_233 tb_23 (fun _ _ _ => ⟨Nat.le_of_ble_eq_true rfl, rfl⟩) dX10_splice_31 (fun w4 ew4 => ?_)
      replace hP := lt_r ew4 hP
      refine V_aload_n hX dX10_splice_34 0 rfl ?_
      refine V_getF (j := 23) hX fk_X10_58 tb_0 (fun _ _ _ => rfl) dX10_splice_35 ?_
      refine V_getI hX fk_X10_233 tb_23 (fun _ _ _ => rfl) dX10_splice_38 ?_
      exact hR _ _ _ _ (Option.some.inj hP) rfl dX10_splice_41
    · replace hP := ite_f hc3 hP
      refine V_iconst (v := (-1)) hX dX10_splice_11 (by decide) ?_
      exact hR _ _ _ _ (Option.some.inj hP) rfl dX10_splice_12
theorem c_X10_splice (l : Launch) (S : Sx) {r : Int32 × Wd} {F : Nat} {w : Wd} {x1 : Int32}  (h : P_X10_splice F w x1 = some r) : Met l yX10_splice (wsg yX10_splice cX10_splice 2 (some .int)) rm_X10_splice (PC S w [rf S 0, .int x1]) (QCi S r) 0 0 (Aw S) :=
  met_i (by decide) rfl (Nat.le_of_ble_eq_true rfl) ⟨rfl, rfl⟩ (fun X hX hR => s_X10_splice  hX hR h)

-- MustNotStop.mend(I)I
abbrev rm_X10_mend : Room := { frames := 4, cells := 0, slots := 0, locals := 128 }
theorem nk_X10_mend : MNk yX10_mend RX10 1 := ⟨rfl, by decide, by decide, by decide +kernel⟩
def P_X10_mend (F : Nat) (w : Wd) (x1 : Int32) : Option (Int32 × Wd) := bnv (P_X1_copy F w 27 23) (fun w2 => bnd (P_X10_splice F w2 x1) (fun x4 w3 => bnd (P_X10_remembered F w3 x4) (fun x6 w5 => some (x6, w5))))
set_option maxRecDepth 100000 in
set_option maxHeartbeats 4000000 in
theorem s_X10_mend {X : Cx} {S : Sx} {r : Int32 × Wd} {F : Nat} {w : Wd} {x1 : Int32}  (hX : Ok X S cX10_mend RX10 2 rm_X10_mend) (hR : HRt X S cX10_mend .int r) (hP : P_X10_mend F w x1 = some r) : V X S w 0 [(0, rf S 0), (1, .int x1)] [] := by
  unfold P_X10_mend at hP
  refine V_aload_n hX dX10_mend_0 0 rfl ?_
  refine V_getF (j := 27) hX fk_X10_65 tb_0 (fun _ _ _ => rfl) dX10_mend_1 ?_
  refine V_aload_n hX dX10_mend_4 0 rfl ?_
  refine V_getF (j := 23) hX fk_X10_58 tb_0 (fun _ _ _ => rfl) dX10_mend_5 ?_
  obtain ⟨w2, hcw2, hP⟩ := bnv_e hP
  refine V_callVv (As := [rf S 23]) (rest := []) hX mk_X10_180 nk_X1_copy (fun l => c_X1_copy l S (by decide) (by decide) hcw2) tb_27 rfl ⟨rfl, rfl, Nat.le_of_ble_eq_true rfl, Nat.le_of_ble_eq_true rfl⟩ rfl rfl (Nat.le_of_ble_eq_true rfl) dX10_mend_8 ?_
  refine V_aload_n hX dX10_mend_11 0 rfl ?_
  refine V_aload_n hX dX10_mend_12 0 rfl ?_
  refine V_iload_n hX dX10_mend_13 1 rfl ?_
  obtain ⟨x4, w3, hcw3, hP⟩ := bnd_e hP
  refine V_callVi (As := [.int x1]) (rest := [rf S 0]) hX mk_X10_193 nk_X10_splice (fun l => c_X10_splice l S  hcw3) tb_0 rfl ⟨rfl, rfl, Nat.le_of_ble_eq_true rfl, Nat.le_of_ble_eq_true rfl⟩ rfl rfl (Nat.le_of_ble_eq_true rfl) dX10_mend_14 ?_
  obtain ⟨x6, w5, hcw5, hP⟩ := bnd_e hP
  refine V_callVi (As := [.int x4]) (rest := []) hX mk_X10_187 nk_X10_remembered (fun l => c_X10_remembered l S  hcw5) tb_0 rfl ⟨rfl, rfl, Nat.le_of_ble_eq_true rfl, Nat.le_of_ble_eq_true rfl⟩ rfl rfl (Nat.le_of_ble_eq_true rfl) dX10_mend_17 ?_
  exact hR _ _ _ _ (Option.some.inj hP) rfl dX10_mend_20
theorem c_X10_mend (l : Launch) (S : Sx) {r : Int32 × Wd} {F : Nat} {w : Wd} {x1 : Int32}  (h : P_X10_mend F w x1 = some r) : Met l yX10_mend (wsg yX10_mend cX10_mend 2 (some .int)) rm_X10_mend (PC S w [rf S 0, .int x1]) (QCi S r) 0 0 (Aw S) :=
  met_i (by decide) rfl (Nat.le_of_ble_eq_true rfl) ⟨rfl, rfl⟩ (fun X hX hR => s_X10_mend  hX hR h)

-- MustNotStop.pass(I)I
abbrev rm_X10_pass : Room := { frames := 6, cells := 0, slots := 0, locals := 186 }
theorem nk_X10_pass : MNk yX10_pass RX10 1 := ⟨rfl, by decide, by decide, by decide +kernel⟩
def L_X10_pass_22 (F : Nat) (x1 : Int32) (x5 : Int32) (k44 : Wd → Option (Int32 × Wd)) : Nat → Wd → Int32 → Option (Int32 × Wd)
  | 0, _, _ => none
  | n + 1, w, x6 => (if x1 ≤ x6 then k44 w  else bnv (P_X9_minute F w 5 23) (fun w8 => lt (x6 + 1 : Int32) (fun x9 => L_X10_pass_22 F x1 x5 k44 n w8 x9)))
set_option maxRecDepth 100000 in
set_option maxHeartbeats 4000000 in
theorem sL_X10_pass_22 {X : Cx} {S : Sx} {r : Int32 × Wd} {F : Nat} {x1 : Int32} {x5 : Int32} {k44 : Wd → Option (Int32 × Wd)} (hX : Ok X S cX10_pass RX10 4 rm_X10_pass) (hR : HRt X S cX10_pass .int r)  (hk44 : ∀ (w : Wd), k44 w = some r → V X S w 44 [(0, rf S 0), (2, .int x5)] []) : ∀ (n : Nat) (w : Wd) (x6 : Int32) , L_X10_pass_22 F x1 x5 k44 n w x6 = some r → V X S w 22 [(0, rf S 0), (1, .int x1), (2, .int x5), (3, .int x6)] [] := by
  intro n
  induction n with
  | zero =>
    intro w x6  hP
    exact nn hP
  | succ n ih =>
    intro w x6  hP
    rw [L_X10_pass_22] at hP
    refine V_iload_n hX dX10_pass_22 3 rfl ?_
    refine V_iload_n hX dX10_pass_23 1 rfl ?_
    refine V_icmp_ge (tgt := 44) hX dX10_pass_24 (by decide) (fun hc7 => ?_) (fun hc7 => ?_)
    · replace hP := ite_t hc7 hP
      refine V_sub (lv' := [(0, rf S 0), (2, .int x5)]) [0, 2] rfl ?_
      exact hk44 _   hP
    · replace hP := ite_f hc7 hP
      refine V_aload_n hX dX10_pass_27 0 rfl ?_
      refine V_getF (j := 5) hX fk_X10_34 tb_0 (fun _ _ _ => rfl) dX10_pass_28 ?_
      refine V_aload_n hX dX10_pass_31 0 rfl ?_
      refine V_getF (j := 23) hX fk_X10_58 tb_0 (fun _ _ _ => rfl) dX10_pass_32 ?_
      obtain ⟨w8, hcw8, hP⟩ := bnv_e hP
      refine V_callVv (As := [rf S 23]) (rest := []) hX mk_X10_239 nk_X9_minute (fun l => c_X9_minute l S (by decide) (by decide) hcw8) tb_5 rfl ⟨rfl, rfl, Nat.le_of_ble_eq_true rfl, Nat.le_of_ble_eq_true rfl⟩ rfl rfl (Nat.le_of_ble_eq_true rfl) dX10_pass_35 ?_
      obtain ⟨x9, ex9⟩ : ∃ y : Int32, y = x6 + 1 := ⟨_, rfl⟩
      replace hP := lt_r ex9 hP
      refine V_iinc (v := x9) (lv' := [(3, .int x9), (0, rf S 0), (1, .int x1), (2, .int x5)]) hX dX10_pass_38 (j := 3) rfl (by decide) (by rw [ex9]; rfl) rfl ?_
      refine V_goto (tgt := 22) hX dX10_pass_41 (by decide) ?_
      refine V_sub (lv' := [(0, rf S 0), (1, .int x1), (2, .int x5), (3, .int x9)]) [1, 2, 3, 0] rfl ?_
      exact ih _ _  hP
def P_X10_pass (F : Nat) (w : Wd) (x1 : Int32) : Option (Int32 × Wd) := (if x1 < 0 then some ((-1), w) else (if x1 ≤ 120 then lt (gI w 23 4 : Int32) (fun x4 => L_X10_pass_22 F x1 x4 (fun w  => some ((gI w 23 4) - x4, w)) F w 0) else some ((-1), w)))
set_option maxRecDepth 100000 in
set_option maxHeartbeats 4000000 in
theorem s_X10_pass {X : Cx} {S : Sx} {r : Int32 × Wd} {F : Nat} {w : Wd} {x1 : Int32}  (hX : Ok X S cX10_pass RX10 4 rm_X10_pass) (hR : HRt X S cX10_pass .int r) (hP : P_X10_pass F w x1 = some r) : V X S w 0 [(0, rf S 0), (1, .int x1)] [] := by
  unfold P_X10_pass at hP
  refine V_iload_n hX dX10_pass_0 1 rfl ?_
  refine V_if_lt (tgt := 10) hX dX10_pass_1 (by decide) (fun hc2 => ?_) (fun hc2 => ?_)
  · replace hP := ite_t hc2 hP
    refine V_iconst (v := (-1)) hX dX10_pass_10 (by decide) ?_
    exact hR _ _ _ _ (Option.some.inj hP) rfl dX10_pass_11
  · replace hP := ite_f hc2 hP
    refine V_iload_n hX dX10_pass_4 1 rfl ?_
    refine V_bipush (v := 120) hX dX10_pass_5 (by decide) ?_
    refine V_icmp_le (tgt := 12) hX dX10_pass_7 (by decide) (fun hc3 => ?_) (fun hc3 => ?_)
    · replace hP := ite_t hc3 hP
      refine V_aload_n hX dX10_pass_12 0 rfl ?_
      refine V_getF (j := 23) hX fk_X10_58 tb_0 (fun _ _ _ => rfl) dX10_pass_13 ?_
      refine V_getI hX fk_X10_236 tb_23 (fun _ _ _ => rfl) dX10_pass_16 ?_
      refine V_topi (fun x4 ex4 => ?_)
      replace hP := lt_r ex4 hP
      refine V_istore_n (lv' := [(2, .int x4), (0, rf S 0), (1, .int x1)]) hX dX10_pass_19 (by decide) rfl ?_
      refine V_iconst (v := 0) hX dX10_pass_20 (by decide) ?_
      refine V_istore_n (lv' := [(3, .int 0), (2, .int x4), (0, rf S 0), (1, .int x1)]) hX dX10_pass_21 (by decide) rfl ?_
      refine V_sub (lv' := [(0, rf S 0), (1, .int x1), (2, .int x4), (3, .int 0)]) [2, 3, 1, 0] rfl ?_
      have k10 : ∀ (w : Wd)  , (some ((gI w 23 4) - x4, w)) = some r → V X S w 44 [(0, rf S 0), (2, .int x4)] [] := by
        intro w   hP
        refine V_aload_n hX dX10_pass_44 0 rfl ?_
        refine V_getF (j := 23) hX fk_X10_58 tb_0 (fun _ _ _ => rfl) dX10_pass_45 ?_
        refine V_getI hX fk_X10_236 tb_23 (fun _ _ _ => rfl) dX10_pass_48 ?_
        refine V_iload_n hX dX10_pass_51 1 rfl ?_
        refine V_isub hX dX10_pass_52 ?_
        exact hR _ _ _ _ (Option.some.inj hP) rfl dX10_pass_53
      exact sL_X10_pass_22 hX hR  k10 F _ _  hP
    · replace hP := ite_f hc3 hP
      refine V_iconst (v := (-1)) hX dX10_pass_10 (by decide) ?_
      exact hR _ _ _ _ (Option.some.inj hP) rfl dX10_pass_11
theorem c_X10_pass (l : Launch) (S : Sx) {r : Int32 × Wd} {F : Nat} {w : Wd} {x1 : Int32}  (h : P_X10_pass F w x1 = some r) : Met l yX10_pass (wsg yX10_pass cX10_pass 4 (some .int)) rm_X10_pass (PC S w [rf S 0, .int x1]) (QCi S r) 0 0 (Aw S) :=
  met_i (by decide) rfl (Nat.le_of_ble_eq_true rfl) ⟨rfl, rfl⟩ (fun X hX hR => s_X10_pass  hX hR h)

-- MustNotStop.tell(JJ)V
abbrev rm_X10_tell : Room := { frames := 2, cells := 0, slots := 0, locals := 86 }
theorem nk_X10_tell : MNk yX10_tell RX10 2 := ⟨rfl, by decide, by decide, by decide +kernel⟩
def P_X10_tell (F : Nat) (w : Wd) (x1 : Int64) (x2 : Int64) : Option (Wd) := bnv (P_X7_clear F w ) (fun w3 => bnv (P_X7_add F w3 x1) (fun w4 => bnv (P_X7_add F w4 x2) (fun w5 => some w5)))
set_option maxRecDepth 100000 in
set_option maxHeartbeats 4000000 in
theorem s_X10_tell {X : Cx} {S : Sx} {r : Wd} {F : Nat} {w : Wd} {x1 : Int64} {x2 : Int64}  (hX : Ok X S cX10_tell RX10 5 rm_X10_tell) (hR : HRv X S cX10_tell r) (hP : P_X10_tell F w x1 x2 = some r) : V X S w 0 [(0, rf S 0), (1, .long x1), (3, .long x2)] [] := by
  unfold P_X10_tell at hP
  refine V_aload_n hX dX10_tell_0 0 rfl ?_
  refine V_getF (j := 3) hX fk_X10_19 tb_0 (fun _ _ _ => rfl) dX10_tell_1 ?_
  obtain ⟨w3, hcw3, hP⟩ := bnv_e hP
  refine V_callVv (As := []) (rest := []) hX mk_X10_289 nk_X7_clear (fun l => c_X7_clear l S  hcw3) tb_3 rfl ⟨rfl, rfl, Nat.le_of_ble_eq_true rfl, Nat.le_of_ble_eq_true rfl⟩ rfl rfl (Nat.le_of_ble_eq_true rfl) dX10_tell_4 ?_
  refine V_aload_n hX dX10_tell_7 0 rfl ?_
  refine V_getF (j := 3) hX fk_X10_19 tb_0 (fun _ _ _ => rfl) dX10_tell_8 ?_
  refine V_lload_n hX dX10_tell_11 1 rfl ?_
  obtain ⟨w4, hcw4, hP⟩ := bnv_e hP
  refine V_callVv (As := [.long x1]) (rest := []) hX mk_X10_293 nk_X7_add (fun l => c_X7_add l S  hcw4) tb_3 rfl ⟨rfl, rfl, Nat.le_of_ble_eq_true rfl, Nat.le_of_ble_eq_true rfl⟩ rfl rfl (Nat.le_of_ble_eq_true rfl) dX10_tell_12 ?_
  refine V_aload_n hX dX10_tell_15 0 rfl ?_
  refine V_getF (j := 3) hX fk_X10_19 tb_0 (fun _ _ _ => rfl) dX10_tell_16 ?_
  refine V_lload_n hX dX10_tell_19 2 rfl ?_
  obtain ⟨w5, hcw5, hP⟩ := bnv_e hP
  refine V_callVv (As := [.long x2]) (rest := []) hX mk_X10_293 nk_X7_add (fun l => c_X7_add l S  hcw5) tb_3 rfl ⟨rfl, rfl, Nat.le_of_ble_eq_true rfl, Nat.le_of_ble_eq_true rfl⟩ rfl rfl (Nat.le_of_ble_eq_true rfl) dX10_tell_20 ?_
  exact hR _ _ _ (Option.some.inj hP) dX10_tell_23
theorem c_X10_tell (l : Launch) (S : Sx) {r : Wd} {F : Nat} {w : Wd} {x1 : Int64} {x2 : Int64}  (h : P_X10_tell F w x1 x2 = some r) : Met l yX10_tell (wsg yX10_tell cX10_tell 5 none) rm_X10_tell (PC S w [rf S 0, .long x1, .long x2]) (QCv S r) 0 0 (Aw S) :=
  met_v (by decide) rfl (Nat.le_of_ble_eq_true rfl) ⟨rfl, rfl⟩ (fun X hX hR => s_X10_tell  hX hR h)

-- MustNotStop.minutes(I)I
abbrev rm_X10_minutes : Room := { frames := 7, cells := 0, slots := 0, locals := 209 }
theorem nk_X10_minutes : MNk yX10_minutes RX10 1 := ⟨rfl, by decide, by decide, by decide +kernel⟩
def P_X10_minutes (F : Nat) (w : Wd) (x1 : Int32) : Option (Int32 × Wd) := bnv (P_X1_copy F w 27 23) (fun w2 => bnd (P_X10_pass F w2 x1) (fun x4 w3 => bnd (P_X10_remembered F w3 x4) (fun x6 w5 => (if x6 < 0 then some (x6, w5) else bnv (P_X10_tell F w5 (Int32.toInt64 ((gI w5 23 6) - (gI w5 27 6))) (Int32.toInt64 ((gI w5 23 8) &&& ((gI w5 27 8) ^^^ ((-1)))))) (fun w8 => some (x6, w8))))))
set_option maxRecDepth 100000 in
set_option maxHeartbeats 4000000 in
theorem s_X10_minutes {X : Cx} {S : Sx} {r : Int32 × Wd} {F : Nat} {w : Wd} {x1 : Int32}  (hX : Ok X S cX10_minutes RX10 3 rm_X10_minutes) (hR : HRt X S cX10_minutes .int r) (hP : P_X10_minutes F w x1 = some r) : V X S w 0 [(0, rf S 0), (1, .int x1)] [] := by
  unfold P_X10_minutes at hP
  refine V_aload_n hX dX10_minutes_0 0 rfl ?_
  refine V_getF (j := 27) hX fk_X10_65 tb_0 (fun _ _ _ => rfl) dX10_minutes_1 ?_
  refine V_aload_n hX dX10_minutes_4 0 rfl ?_
  refine V_getF (j := 23) hX fk_X10_58 tb_0 (fun _ _ _ => rfl) dX10_minutes_5 ?_
  obtain ⟨w2, hcw2, hP⟩ := bnv_e hP
  refine V_callVv (As := [rf S 23]) (rest := []) hX mk_X10_180 nk_X1_copy (fun l => c_X1_copy l S (by decide) (by decide) hcw2) tb_27 rfl ⟨rfl, rfl, Nat.le_of_ble_eq_true rfl, Nat.le_of_ble_eq_true rfl⟩ rfl rfl (Nat.le_of_ble_eq_true rfl) dX10_minutes_8 ?_
  refine V_aload_n hX dX10_minutes_11 0 rfl ?_
  refine V_aload_n hX dX10_minutes_12 0 rfl ?_
  refine V_iload_n hX dX10_minutes_13 1 rfl ?_
  obtain ⟨x4, w3, hcw3, hP⟩ := bnd_e hP
  refine V_callVi (As := [.int x1]) (rest := [rf S 0]) hX mk_X10_196 nk_X10_pass (fun l => c_X10_pass l S  hcw3) tb_0 rfl ⟨rfl, rfl, Nat.le_of_ble_eq_true rfl, Nat.le_of_ble_eq_true rfl⟩ rfl rfl (Nat.le_of_ble_eq_true rfl) dX10_minutes_14 ?_
  obtain ⟨x6, w5, hcw5, hP⟩ := bnd_e hP
  refine V_callVi (As := [.int x4]) (rest := []) hX mk_X10_187 nk_X10_remembered (fun l => c_X10_remembered l S  hcw5) tb_0 rfl ⟨rfl, rfl, Nat.le_of_ble_eq_true rfl, Nat.le_of_ble_eq_true rfl⟩ rfl rfl (Nat.le_of_ble_eq_true rfl) dX10_minutes_17 ?_
  refine V_istore_n (lv' := [(2, .int x6), (0, rf S 0), (1, .int x1)]) hX dX10_minutes_20 (by decide) rfl ?_
  refine V_iload_n hX dX10_minutes_21 0 rfl ?_
  refine V_if_lt (tgt := 63) hX dX10_minutes_22 (by decide) (fun hc7 => ?_) (fun hc7 => ?_)
  · replace hP := ite_t hc7 hP
    refine V_iload_n hX dX10_minutes_63 0 rfl ?_
    exact hR _ _ _ _ (Option.some.inj hP) rfl dX10_minutes_64
  · replace hP := ite_f hc7 hP
    refine V_aload_n hX dX10_minutes_25 1 rfl ?_
    refine V_aload_n hX dX10_minutes_26 1 rfl ?_
    refine V_getF (j := 23) hX fk_X10_58 tb_0 (fun _ _ _ => rfl) dX10_minutes_27 ?_
    refine V_getI hX fk_X10_199 tb_23 (fun _ _ _ => rfl) dX10_minutes_30 ?_
    refine V_aload_n hX dX10_minutes_33 1 rfl ?_
    refine V_getF (j := 27) hX fk_X10_65 tb_0 (fun _ _ _ => rfl) dX10_minutes_34 ?_
    refine V_getI hX fk_X10_199 tb_27 (fun _ _ _ => rfl) dX10_minutes_37 ?_
    refine V_isub hX dX10_minutes_40 ?_
    refine V_i2l hX dX10_minutes_41 ?_
    refine V_aload_n hX dX10_minutes_42 1 rfl ?_
    refine V_getF (j := 23) hX fk_X10_58 tb_0 (fun _ _ _ => rfl) dX10_minutes_43 ?_
    refine V_getI hX fk_X10_145 tb_23 (fun _ _ _ => rfl) dX10_minutes_46 ?_
    refine V_aload_n hX dX10_minutes_49 1 rfl ?_
    refine V_getF (j := 27) hX fk_X10_65 tb_0 (fun _ _ _ => rfl) dX10_minutes_50 ?_
    refine V_getI hX fk_X10_145 tb_27 (fun _ _ _ => rfl) dX10_minutes_53 ?_
    refine V_iconst (v := (-1)) hX dX10_minutes_56 (by decide) ?_
    refine V_ixor hX dX10_minutes_57 ?_
    refine V_iand hX dX10_minutes_58 ?_
    refine V_i2l hX dX10_minutes_59 ?_
    obtain ⟨w8, hcw8, hP⟩ := bnv_e hP
    refine V_callVv (As := [.long (Int32.toInt64 ((gI w5 23 6) - (gI w5 27 6))), .long (Int32.toInt64 ((gI w5 23 8) &&& ((gI w5 27 8) ^^^ ((-1)))))]) (rest := []) hX mk_X10_202 nk_X10_tell (fun l => c_X10_tell l S  hcw8) tb_0 rfl ⟨rfl, rfl, Nat.le_of_ble_eq_true rfl, Nat.le_of_ble_eq_true rfl⟩ rfl rfl (Nat.le_of_ble_eq_true rfl) dX10_minutes_60 ?_
    refine V_iload_n hX dX10_minutes_63 0 rfl ?_
    exact hR _ _ _ _ (Option.some.inj hP) rfl dX10_minutes_64
theorem c_X10_minutes (l : Launch) (S : Sx) {r : Int32 × Wd} {F : Nat} {w : Wd} {x1 : Int32}  (h : P_X10_minutes F w x1 = some r) : Met l yX10_minutes (wsg yX10_minutes cX10_minutes 3 (some .int)) rm_X10_minutes (PC S w [rf S 0, .int x1]) (QCi S r) 0 0 (Aw S) :=
  met_i (by decide) rfl (Nat.le_of_ble_eq_true rfl) ⟨rfl, rfl⟩ (fun X hX hR => s_X10_minutes  hX hR h)
