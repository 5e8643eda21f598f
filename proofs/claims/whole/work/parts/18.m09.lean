-- MustNotStop.years(II)I
abbrev rm_X10_years : Room := { frames := 6, cells := 0, slots := 0, locals := 186 }
theorem nk_X10_years : MNk yX10_years RX10 2 := ⟨rfl, by decide, by decide, by decide +kernel⟩
def K_X10_years_129 (F : Nat) (x1 : Int32) (x2 : Int32) (x8 : Int32) (k146 : Wd → Option (Int32 × Wd)) (rc : Wd → Int32 → Int32 → Option (Int32 × Wd)) (w : Wd) (x22 : Int32) (x23 : Int32) : Option (Int32 × Wd) := bnv (P_X9_minute F w 5 25) (fun w24 => lt (x23 + 1 : Int32) (fun x25 => rc w24 x22 x25))
set_option maxRecDepth 100000 in
set_option maxHeartbeats 4000000 in
theorem sK_X10_years_129 {X : Cx} {S : Sx} {r : Int32 × Wd} {F : Nat} {x1 : Int32} {x2 : Int32} {x8 : Int32} {k146 : Wd → Option (Int32 × Wd)} {rc : Wd → Int32 → Int32 → Option (Int32 × Wd)} {w : Wd} {x22 : Int32} {x23 : Int32} (hX : Ok X S cX10_years RX10 8 rm_X10_years) (hR : HRt X S cX10_years .int r)  (hk146 : ∀ (w : Wd), k146 w = some r → V X S w 146 [(0, rf S 0)] []) (hrc : ∀ (w : Wd) (x9 : Int32) (x10 : Int32) , rc w x9 x10 = some r → V X S w 47 [(0, rf S 0), (2, .int x2), (3, .int x8), (4, .int x9), (5, .int x10), (1, .int x1)] [])  (hP : K_X10_years_129 F x1 x2 x8 k146 rc w x22 x23 = some r) : V X S w 129 [(0, rf S 0), (1, .int x1), (2, .int x2), (3, .int x8), (4, .int x22), (5, .int x23)] [] := by
  unfold K_X10_years_129 at hP
  refine V_aload_n hX dX10_years_129 0 rfl ?_
  refine V_getF (j := 5) hX fk_X10_34 tb_0 (fun _ _ _ => rfl) dX10_years_130 ?_
  refine V_aload_n hX dX10_years_133 0 rfl ?_
  refine V_getF (j := 25) hX fk_X10_62 tb_0 (fun _ _ _ => rfl) dX10_years_134 ?_
  obtain ⟨w24, hcw24, hP⟩ := bnv_e hP
  refine V_callVv (As := [rf S 25]) (rest := []) hX mk_X10_239 nk_X9_minute (fun l => c_X9_minute l S (by decide) (by decide) hcw24) tb_5 rfl ⟨rfl, rfl, Nat.le_of_ble_eq_true rfl, Nat.le_of_ble_eq_true rfl⟩ rfl rfl (Nat.le_of_ble_eq_true rfl) dX10_years_137 ?_
  obtain ⟨x25, ex25⟩ : ∃ y : Int32, y = x23 + 1 := ⟨_, rfl⟩
  replace hP := lt_r ex25 hP
  refine V_iinc (v := x25) (lv' := [(5, .int x25), (0, rf S 0), (1, .int x1), (2, .int x2), (3, .int x8), (4, .int x22)]) hX dX10_years_140 (j := 5) rfl (by decide) (by rw [ex25]; rfl) rfl ?_
  refine V_goto (tgt := 47) hX dX10_years_143 (by decide) ?_
  refine V_sub (lv' := [(0, rf S 0), (2, .int x2), (3, .int x8), (4, .int x22), (5, .int x25), (1, .int x1)]) [1, 3, 4, 5, 0, 2] rfl ?_
  exact hrc _ _ _  hP
def K_X10_years_115 (F : Nat) (x1 : Int32) (x2 : Int32) (x8 : Int32) (k146 : Wd → Option (Int32 × Wd)) (rc : Wd → Int32 → Int32 → Option (Int32 × Wd)) (w : Wd) (x18 : Int32) (x19 : Int32) (x20 : Int32) : Option (Int32 × Wd) := lt (sI w 25 1 ((gI w 25 1) ^^^ x20)) (fun w21 => K_X10_years_129 F x1 x2 x8 k146 rc w21 x18 x19)
set_option maxRecDepth 100000 in
set_option maxHeartbeats 4000000 in
theorem sK_X10_years_115 {X : Cx} {S : Sx} {r : Int32 × Wd} {F : Nat} {x1 : Int32} {x2 : Int32} {x8 : Int32} {k146 : Wd → Option (Int32 × Wd)} {rc : Wd → Int32 → Int32 → Option (Int32 × Wd)} {w : Wd} {x18 : Int32} {x19 : Int32} {x20 : Int32} (hX : Ok X S cX10_years RX10 8 rm_X10_years) (hR : HRt X S cX10_years .int r)  (hk146 : ∀ (w : Wd), k146 w = some r → V X S w 146 [(0, rf S 0)] []) (hrc : ∀ (w : Wd) (x9 : Int32) (x10 : Int32) , rc w x9 x10 = some r → V X S w 47 [(0, rf S 0), (2, .int x2), (3, .int x8), (4, .int x9), (5, .int x10), (1, .int x1)] [])  (hP : K_X10_years_115 F x1 x2 x8 k146 rc w x18 x19 x20 = some r) : V X S w 115 [(0, rf S 0), (1, .int x1), (2, .int x2), (3, .int x8), (4, .int x18), (5, .int x19), (6, .int x20)] [] := by
  unfold K_X10_years_115 at hP
  refine V_aload_n hX dX10_years_115 0 rfl ?_
  refine V_getF (j := 25) hX fk_X10_62 tb_0 (fun _ _ _ => rfl) dX10_years_116 ?_
  refine V_dup hX dX10_years_119 rfl ?_
  refine V_getI hX fk_X10_148 tb_25 (fun _ _ _ => rfl) dX10_years_120 ?_
  refine V_iload hX dX10_years_123 6 rfl ?_
  refine V_ixor hX dX10_years_125 ?_
  refine V_putI hX fw_X10_148 tb_25 (fun _ _ _ => ⟨Nat.le_of_ble_eq_true rfl, rfl⟩) dX10_years_126 (fun w21 ew21 => ?_)
  replace hP := lt_r ew21 hP
  refine V_sub (lv' := [(0, rf S 0), (1, .int x1), (2, .int x2), (3, .int x8), (4, .int x18), (5, .int x19)]) [0, 1, 2, 3, 4, 5] rfl ?_
  exact sK_X10_years_129 hX hR  hk146 hrc  hP
def L_X10_years_47 (F : Nat) (x1 : Int32) (x2 : Int32) (x8 : Int32) (k146 : Wd → Option (Int32 × Wd)) : Nat → Wd → Int32 → Int32 → Option (Int32 × Wd)
  | 0, _, _, _ => none
  | n + 1, w, x9, x10 => (if x2 ≤ x10 then k146 w  else lt ((x9 * 1103515245) + 12345 : Int32) (fun x12 => gd (neZ x8) (lt (ishlI 1 (iremI (iushrI x12 16) x8) : Int32) (fun x14 => lt (if ((gI w 25 1) &&& x14) = 0 then 0 else 1 : Int32) (fun x16 => (if x16 = 0 then bnd (P_J6_bitCount_0f7a4 F w (gI w 25 1)) (fun x27 w26 => (if (3 : Int32) ≤ x27 then K_X10_years_129 F x1 x2 x8 k146 ((L_X10_years_47 F x1 x2 x8 k146 n)) w26 x12 x10 else K_X10_years_115 F x1 x2 x8 k146 ((L_X10_years_47 F x1 x2 x8 k146 n)) w26 x12 x10 x14)) else K_X10_years_115 F x1 x2 x8 k146 ((L_X10_years_47 F x1 x2 x8 k146 n)) w x12 x10 x14))))))
set_option maxRecDepth 100000 in
set_option maxHeartbeats 4000000 in
theorem sL_X10_years_47 {X : Cx} {S : Sx} {r : Int32 × Wd} {F : Nat} {x1 : Int32} {x2 : Int32} {x8 : Int32} {k146 : Wd → Option (Int32 × Wd)} (hX : Ok X S cX10_years RX10 8 rm_X10_years) (hR : HRt X S cX10_years .int r)  (hk146 : ∀ (w : Wd), k146 w = some r → V X S w 146 [(0, rf S 0)] []) : ∀ (n : Nat) (w : Wd) (x9 : Int32) (x10 : Int32) , L_X10_years_47 F x1 x2 x8 k146 n w x9 x10 = some r → V X S w 47 [(0, rf S 0), (2, .int x2), (3, .int x8), (4, .int x9), (5, .int x10), (1, .int x1)] [] := by
  intro n
  induction n with
  | zero =>
    intro w x9 x10  hP
    exact nn hP
  | succ n ih =>
    intro w x9 x10  hP
    rw [L_X10_years_47] at hP
    refine V_iload hX dX10_years_47 4 rfl ?_
    refine V_iload_n hX dX10_years_49 1 rfl ?_
    refine V_icmp_ge (tgt := 146) hX dX10_years_50 (by decide) (fun hc11 => ?_) (fun hc11 => ?_)
    · replace hP := ite_t hc11 hP
      refine V_sub (lv' := [(0, rf S 0)]) [0] rfl ?_
      exact hk146 _   hP
    · replace hP := ite_f hc11 hP
      refine V_iload hX dX10_years_53 3 rfl ?_
      refine V_ldcw (v := 1103515245) hX dX10_years_55 cn_X10_353 ?_
      refine V_imul hX dX10_years_58 ?_
      refine V_sipush (v := 12345) hX dX10_years_59 (by decide) ?_
      refine V_iadd hX dX10_years_62 ?_
      refine V_topi (fun x12 ex12 => ?_)
      replace hP := lt_r ex12 hP
      refine V_istore (lv' := [(4, .int x12), (0, rf S 0), (2, .int x2), (3, .int x8), (5, .int x10), (1, .int x1)]) hX dX10_years_63 (by decide) rfl ?_
      refine V_iconst (v := 1) hX dX10_years_65 (by decide) ?_
      refine V_iload hX dX10_years_66 0 rfl ?_
      refine V_bipush (v := 16) hX dX10_years_68 (by decide) ?_
      refine V_iushr hX dX10_years_70 ?_
      refine V_iload_n hX dX10_years_71 3 rfl ?_
      obtain ⟨hz13, hP⟩ := gd_e hP
      refine V_irem hX dX10_years_72 hz13 ?_
      refine V_ishl hX dX10_years_73 ?_
      refine V_topi (fun x14 ex14 => ?_)
      replace hP := lt_r ex14 hP
      refine V_istore (lv' := [(6, .int x14), (4, .int x12), (0, rf S 0), (2, .int x2), (3, .int x8), (5, .int x10), (1, .int x1)]) hX dX10_years_74 (by decide) rfl ?_
      refine V_aload_n hX dX10_years_76 2 rfl ?_
      refine V_getF (j := 25) hX fk_X10_62 tb_0 (fun _ _ _ => rfl) dX10_years_77 ?_
      refine V_getI hX fk_X10_148 tb_25 (fun _ _ _ => rfl) dX10_years_80 ?_
      refine V_iload hX dX10_years_83 0 rfl ?_
      refine V_iand hX dX10_years_85 ?_
      have k29 : V X S w 94 [(6, .int x14), (4, .int x12), (0, rf S 0), (2, .int x2), (3, .int x8), (5, .int x10), (1, .int x1)] [.int (if ((gI w 25 1) &&& x14) = 0 then 0 else 1)] := by
        refine V_topi (fun x16 ex16 => ?_)
        replace hP := lt_r ex16 hP
        refine V_istore (lv' := [(7, .int x16), (6, .int x14), (4, .int x12), (0, rf S 0), (2, .int x2), (3, .int x8), (5, .int x10), (1, .int x1)]) hX dX10_years_94 (by decide) rfl ?_
        refine V_iload hX dX10_years_96 0 rfl ?_
        refine V_if_ne (tgt := 115) hX dX10_years_98 (by decide) (fun hc17 => ?_) (fun hc17 => ?_)
        · replace hP := ite_f hc17 hP
          refine V_sub (lv' := [(0, rf S 0), (1, .int x1), (2, .int x2), (3, .int x8), (4, .int x12), (5, .int x10), (6, .int x14)]) [3, 7, 4, 5, 2, 6, 1] rfl ?_
          exact sK_X10_years_115 hX hR  hk146 ih  hP
        · replace hP := ite_t hc17 hP
          refine V_aload_n hX dX10_years_101 3 rfl ?_
          refine V_getF (j := 25) hX fk_X10_62 tb_0 (fun _ _ _ => rfl) dX10_years_102 ?_
          refine V_getI hX fk_X10_148 tb_25 (fun _ _ _ => rfl) dX10_years_105 ?_
          obtain ⟨x27, w26, hcw26, hP⟩ := bnd_e hP
          refine V_callSi (As := [.int (gI w 25 1)]) (rest := []) hX mk_X10_228 nk_J6_bitCount_0f7a4 (fun l => c_J6_bitCount_0f7a4 l S  hcw26) ⟨rfl, rfl, Nat.le_of_ble_eq_true rfl, Nat.le_of_ble_eq_true rfl⟩ rfl rfl (Nat.le_of_ble_eq_true rfl) dX10_years_108 ?_
          refine V_iconst (v := 3) hX dX10_years_111 (by decide) ?_
          refine V_icmp_ge (tgt := 129) hX dX10_years_112 (by decide) (fun hc28 => ?_) (fun hc28 => ?_)
          · replace hP := ite_t hc28 hP
            refine V_sub (lv' := [(0, rf S 0), (1, .int x1), (2, .int x2), (3, .int x8), (4, .int x12), (5, .int x10)]) [3, 7, 4, 5, 2, 6] rfl ?_
            exact sK_X10_years_129 hX hR  hk146 ih  hP
          · replace hP := ite_f hc28 hP
            refine V_sub (lv' := [(0, rf S 0), (1, .int x1), (2, .int x2), (3, .int x8), (4, .int x12), (5, .int x10), (6, .int x14)]) [3, 7, 4, 5, 2, 6, 1] rfl ?_
            exact sK_X10_years_115 hX hR  hk146 ih  hP
      refine V_if_eq (tgt := 93) hX dX10_years_86 (by decide) (fun hc15 => ?_) (fun hc15 => ?_)
      · refine V_iconst (v := 0) hX dX10_years_93 (by decide) ?_
        refine V_selT (c := ((gI w 25 1) &&& x14) = 0) (b := 1) hc15 ?_
        exact k29
      · refine V_iconst (v := 1) hX dX10_years_89 (by decide) ?_
        refine V_goto (tgt := 94) hX dX10_years_90 (by decide) ?_
        refine V_selF (c := ((gI w 25 1) &&& x14) = 0) (a := 0) hc15 ?_
        exact k29
def P_X10_years (F : Nat) (w : Wd) (x1 : Int32) (x2 : Int32) : Option (Int32 × Wd) := lt (gI w 6 2 : Int32) (fun x3 => (if x2 < 1 then some ((-1), w) else (if (300 : Int32) < x2 then some ((-1), w) else (if (1 : Int32) ≤ x3 then bnv (P_X1_copy F w 25 23) (fun w7 => L_X10_years_47 F x1 x2 x3 (fun w  => bnd (P_X1_tiredTogether F w 25) (fun x31 w30 => bnd (P_J6_bitCount_0f7a4 F w30 (gI w30 25 8)) (fun x33 w32 => bnv (P_X10_tell__ F w32 (Int32.toInt64 ((gI w 25 4) - (gI w 23 4))) (Int32.toInt64 x31) (Int32.toInt64 x33)) (fun w34 => some ((gI w34 25 6) - (gI w34 23 6), w34))))) F w7 x1 0) else some ((-1), w)))))
set_option maxRecDepth 100000 in
set_option maxHeartbeats 4000000 in
theorem s_X10_years {X : Cx} {S : Sx} {r : Int32 × Wd} {F : Nat} {w : Wd} {x1 : Int32} {x2 : Int32}  (hX : Ok X S cX10_years RX10 8 rm_X10_years) (hR : HRt X S cX10_years .int r) (hP : P_X10_years F w x1 x2 = some r) : V X S w 0 [(0, rf S 0), (1, .int x1), (2, .int x2)] [] := by
  unfold P_X10_years at hP
  refine V_aload_n hX dX10_years_0 0 rfl ?_
  refine V_getF (j := 5) hX fk_X10_34 tb_0 (fun _ _ _ => rfl) dX10_years_1 ?_
  refine V_getF (j := 6) hX fk_X10_38 tb_5 (fun _ _ _ => rfl) dX10_years_4 ?_
  refine V_getI hX fk_X10_301 tb_6 (fun _ _ _ => rfl) dX10_years_7 ?_
  refine V_topi (fun x3 ex3 => ?_)
  replace hP := lt_r ex3 hP
  refine V_istore_n (lv' := [(3, .int x3), (0, rf S 0), (1, .int x1), (2, .int x2)]) hX dX10_years_10 (by decide) rfl ?_
  refine V_iload_n hX dX10_years_11 3 rfl ?_
  refine V_iconst (v := 1) hX dX10_years_12 (by decide) ?_
  refine V_icmp_lt (tgt := 28) hX dX10_years_13 (by decide) (fun hc4 => ?_) (fun hc4 => ?_)
  · replace hP := ite_t hc4 hP
    refine V_iconst (v := (-1)) hX dX10_years_28 (by decide) ?_
    exact hR _ _ _ _ (Option.some.inj hP) rfl dX10_years_29
  · replace hP := ite_f hc4 hP
    refine V_iload_n hX dX10_years_16 3 rfl ?_
    refine V_sipush (v := 300) hX dX10_years_17 (by decide) ?_
    refine V_icmp_gt (tgt := 28) hX dX10_years_20 (by decide) (fun hc5 => ?_) (fun hc5 => ?_)
    · replace hP := ite_t hc5 hP
      refine V_iconst (v := (-1)) hX dX10_years_28 (by decide) ?_
      exact hR _ _ _ _ (Option.some.inj hP) rfl dX10_years_29
    · replace hP := ite_f hc5 hP
      refine V_iload_n hX dX10_years_23 0 rfl ?_
      refine V_iconst (v := 1) hX dX10_years_24 (by decide) ?_
      refine V_icmp_ge (tgt := 30) hX dX10_years_25 (by decide) (fun hc6 => ?_) (fun hc6 => ?_)
      · replace hP := ite_t hc6 hP
        refine V_iload_n hX dX10_years_30 2 rfl ?_
        refine V_istore (lv' := [(4, .int x1), (3, .int x3), (0, rf S 0), (1, .int x1), (2, .int x2)]) hX dX10_years_31 (by decide) rfl ?_
        refine V_aload_n hX dX10_years_33 2 rfl ?_
        refine V_getF (j := 25) hX fk_X10_62 tb_0 (fun _ _ _ => rfl) dX10_years_34 ?_
        refine V_aload_n hX dX10_years_37 2 rfl ?_
        refine V_getF (j := 23) hX fk_X10_58 tb_0 (fun _ _ _ => rfl) dX10_years_38 ?_
        obtain ⟨w7, hcw7, hP⟩ := bnv_e hP
        refine V_callVv (As := [rf S 23]) (rest := []) hX mk_X10_180 nk_X1_copy (fun l => c_X1_copy l S (by decide) (by decide) hcw7) tb_25 rfl ⟨rfl, rfl, Nat.le_of_ble_eq_true rfl, Nat.le_of_ble_eq_true rfl⟩ rfl rfl (Nat.le_of_ble_eq_true rfl) dX10_years_41 ?_
        refine V_iconst (v := 0) hX dX10_years_44 (by decide) ?_
        refine V_istore (lv' := [(5, .int 0), (4, .int x1), (3, .int x3), (0, rf S 0), (1, .int x1), (2, .int x2)]) hX dX10_years_45 (by decide) rfl ?_
        refine V_sub (lv' := [(0, rf S 0), (2, .int x2), (3, .int x3), (4, .int x1), (5, .int 0), (1, .int x1)]) [3, 5, 2, 1, 0, 4] rfl ?_
        have k35 : ∀ (w : Wd)  , (bnd (P_X1_tiredTogether F w 25) (fun x31 w30 => bnd (P_J6_bitCount_0f7a4 F w30 (gI w30 25 8)) (fun x33 w32 => bnv (P_X10_tell__ F w32 (Int32.toInt64 ((gI w 25 4) - (gI w 23 4))) (Int32.toInt64 x31) (Int32.toInt64 x33)) (fun w34 => some ((gI w34 25 6) - (gI w34 23 6), w34))))) = some r → V X S w 146 [(0, rf S 0)] [] := by
          intro w   hP
          refine V_aload_n hX dX10_years_146 0 rfl ?_
          refine V_aload_n hX dX10_years_147 0 rfl ?_
          refine V_getF (j := 25) hX fk_X10_62 tb_0 (fun _ _ _ => rfl) dX10_years_148 ?_
          refine V_getI hX fk_X10_236 tb_25 (fun _ _ _ => rfl) dX10_years_151 ?_
          refine V_aload_n hX dX10_years_154 0 rfl ?_
          refine V_getF (j := 23) hX fk_X10_58 tb_0 (fun _ _ _ => rfl) dX10_years_155 ?_
          refine V_getI hX fk_X10_236 tb_23 (fun _ _ _ => rfl) dX10_years_158 ?_
          refine V_isub hX dX10_years_161 ?_
          refine V_i2l hX dX10_years_162 ?_
          refine V_aload_n hX dX10_years_163 0 rfl ?_
          refine V_getF (j := 25) hX fk_X10_62 tb_0 (fun _ _ _ => rfl) dX10_years_164 ?_
          obtain ⟨x31, w30, hcw30, hP⟩ := bnd_e hP
          refine V_callVi (As := []) (rest := [.long (Int32.toInt64 ((gI w 25 4) - (gI w 23 4))), rf S 0]) hX mk_X10_168 nk_X1_tiredTogether (fun l => c_X1_tiredTogether l S (by decide) hcw30) tb_25 rfl ⟨rfl, rfl, Nat.le_of_ble_eq_true rfl, Nat.le_of_ble_eq_true rfl⟩ rfl rfl (Nat.le_of_ble_eq_true rfl) dX10_years_167 ?_
          refine V_i2l hX dX10_years_170 ?_
          refine V_aload_n hX dX10_years_171 0 rfl ?_
          refine V_getF (j := 25) hX fk_X10_62 tb_0 (fun _ _ _ => rfl) dX10_years_172 ?_
          refine V_getI hX fk_X10_145 tb_25 (fun _ _ _ => rfl) dX10_years_175 ?_
          obtain ⟨x33, w32, hcw32, hP⟩ := bnd_e hP
          refine V_callSi (As := [.int (gI w30 25 8)]) (rest := [.long (Int32.toInt64 x31), .long (Int32.toInt64 ((gI w 25 4) - (gI w 23 4))), rf S 0]) hX mk_X10_228 nk_J6_bitCount_0f7a4 (fun l => c_J6_bitCount_0f7a4 l S  hcw32) ⟨rfl, rfl, Nat.le_of_ble_eq_true rfl, Nat.le_of_ble_eq_true rfl⟩ rfl rfl (Nat.le_of_ble_eq_true rfl) dX10_years_178 ?_
          refine V_i2l hX dX10_years_181 ?_
          obtain ⟨w34, hcw34, hP⟩ := bnv_e hP
          refine V_callVv (As := [.long (Int32.toInt64 ((gI w 25 4) - (gI w 23 4))), .long (Int32.toInt64 x31), .long (Int32.toInt64 x33)]) (rest := []) hX mk_X10_354 nk_X10_tell__ (fun l => c_X10_tell__ l S  hcw34) tb_0 rfl ⟨rfl, rfl, Nat.le_of_ble_eq_true rfl, Nat.le_of_ble_eq_true rfl⟩ rfl rfl (Nat.le_of_ble_eq_true rfl) dX10_years_182 ?_
          refine V_aload_n hX dX10_years_185 0 rfl ?_
          refine V_getF (j := 25) hX fk_X10_62 tb_0 (fun _ _ _ => rfl) dX10_years_186 ?_
          refine V_getI hX fk_X10_199 tb_25 (fun _ _ _ => rfl) dX10_years_189 ?_
          refine V_aload_n hX dX10_years_192 0 rfl ?_
          refine V_getF (j := 23) hX fk_X10_58 tb_0 (fun _ _ _ => rfl) dX10_years_193 ?_
          refine V_getI hX fk_X10_199 tb_23 (fun _ _ _ => rfl) dX10_years_196 ?_
          refine V_isub hX dX10_years_199 ?_
          exact hR _ _ _ _ (Option.some.inj hP) rfl dX10_years_200
        exact sL_X10_years_47 hX hR  k35 F _ _ _  hP
      · replace hP := ite_f hc6 hP
        refine V_iconst (v := (-1)) hX dX10_years_28 (by decide) ?_
        exact hR _ _ _ _ (Option.some.inj hP) rfl dX10_years_29
theorem c_X10_years (l : Launch) (S : Sx) {r : Int32 × Wd} {F : Nat} {w : Wd} {x1 : Int32} {x2 : Int32}  (h : P_X10_years F w x1 x2 = some r) : Met l yX10_years (wsg yX10_years cX10_years 8 (some .int)) rm_X10_years (PC S w [rf S 0, .int x1, .int x2]) (QCi S r) 0 0 (Aw S) :=
  met_i (by decide) rfl (Nat.le_of_ble_eq_true rfl) ⟨rfl, rfl⟩ (fun X hX hR => s_X10_years  hX hR h)

-- MustNotStop.keep(I)Z
abbrev rm_X10_keep : Room := { frames := 2, cells := 0, slots := 0, locals := 86 }
theorem nk_X10_keep : MNk yX10_keep RX10 1 := ⟨rfl, by decide, by decide, by decide +kernel⟩
def P_X10_keep (F : Nat) (w : Wd) (x1 : Int32) : Option (Int32 × Wd) := (if x1 < 0 then some (0, w) else (if x1 < 3 then gd (inB x1 3) (lt (82 + 2 * x1.toNatClampNeg) (fun a5 => gd (isX1 a5) (bnv (P_X1_copy F w a5 23) (fun w6 => lt (sI w6 0 10 ((gI w6 0 10) ||| (ishlI 1 x1))) (fun w7 => some (1, w7)))))) else some (0, w)))
set_option maxRecDepth 100000 in
set_option maxHeartbeats 4000000 in
theorem s_X10_keep {X : Cx} {S : Sx} {r : Int32 × Wd} {F : Nat} {w : Wd} {x1 : Int32}  (hX : Ok X S cX10_keep RX10 2 rm_X10_keep) (hR : HRt X S cX10_keep .boolean r) (hP : P_X10_keep F w x1 = some r) : V X S w 0 [(0, rf S 0), (1, .int x1)] [] := by
  unfold P_X10_keep at hP
  refine V_iload_n hX dX10_keep_0 1 rfl ?_
  refine V_if_lt (tgt := 13) hX dX10_keep_1 (by decide) (fun hc2 => ?_) (fun hc2 => ?_)
  · replace hP := ite_t hc2 hP
    refine V_iconst (v := 0) hX dX10_keep_13 (by decide) ?_
    exact hR _ _ _ _ (Option.some.inj hP) rfl dX10_keep_14
  · replace hP := ite_f hc2 hP
    refine V_iload_n hX dX10_keep_4 1 rfl ?_
    refine V_aload_n hX dX10_keep_5 0 rfl ?_
    refine V_getF (j := 61) hX fk_X10_75 tb_0 (fun _ _ _ => rfl) dX10_keep_6 ?_
    refine V_alenB (v := 3) hX tb_61 (by decide) dX10_keep_9 ?_
    refine V_icmp_lt (tgt := 15) hX dX10_keep_10 (by decide) (fun hc3 => ?_) (fun hc3 => ?_)
    · replace hP := ite_t hc3 hP
      refine V_aload_n hX dX10_keep_15 0 rfl ?_
      refine V_getF (j := 61) hX fk_X10_75 tb_0 (fun _ _ _ => rfl) dX10_keep_16 ?_
      refine V_iload_n hX dX10_keep_19 1 rfl ?_
      obtain ⟨hi4, hP⟩ := gd_e hP
      refine V_aald hX tb_61 hi4 dX10_keep_20 ?_
      refine V_topr (fun a5 ea5 => ?_)
      replace hP := lt_r ea5 hP
      obtain ⟨ha5, hP⟩ := gd_e hP
      refine V_aload_n hX dX10_keep_21 0 rfl ?_
      refine V_getF (j := 23) hX fk_X10_58 tb_0 (fun _ _ _ => rfl) dX10_keep_22 ?_
      obtain ⟨w6, hcw6, hP⟩ := bnv_e hP
      refine V_callVv (As := [rf S 23]) (rest := []) hX mk_X10_180 nk_X1_copy (fun l => c_X1_copy l S ha5 (by decide) hcw6) (tb_X1 ha5) rfl ⟨rfl, rfl, Nat.le_of_ble_eq_true rfl, Nat.le_of_ble_eq_true rfl⟩ rfl rfl (Nat.le_of_ble_eq_true rfl) dX10_keep_25 ?_
      refine V_aload_n hX dX10_keep_28 0 rfl ?_
      refine V_dup hX dX10_keep_29 rfl ?_
      refine V_getI hX fk_X10_79 tb_0 (fun _ _ _ => rfl) dX10_keep_30 ?_
      refine V_iconst (v := 1) hX dX10_keep_33 (by decide) ?_
      refine V_iload_n hX dX10_keep_34 1 rfl ?_
      refine V_ishl hX dX10_keep_35 ?_
      refine V_ior hX dX10_keep_36 ?_
      refine V_putI hX fw_X10_79 tb_0 (fun _ _ _ => ⟨Nat.le_of_ble_eq_true rfl, rfl⟩) dX10_keep_37 (fun w7 ew7 => ?_)
      replace hP := lt_r ew7 hP
      refine V_iconst (v := 1) hX dX10_keep_40 (by decide) ?_
      exact hR _ _ _ _ (Option.some.inj hP) rfl dX10_keep_41
    · replace hP := ite_f hc3 hP
      refine V_iconst (v := 0) hX dX10_keep_13 (by decide) ?_
      exact hR _ _ _ _ (Option.some.inj hP) rfl dX10_keep_14
theorem c_X10_keep (l : Launch) (S : Sx) {r : Int32 × Wd} {F : Nat} {w : Wd} {x1 : Int32}  (h : P_X10_keep F w x1 = some r) : Met l yX10_keep (wsg yX10_keep cX10_keep 2 (some .boolean)) rm_X10_keep (PC S w [rf S 0, .int x1]) (QCi S r) 0 0 (Aw S) :=
  met_i (by decide) rfl (Nat.le_of_ble_eq_true rfl) ⟨rfl, rfl⟩ (fun X hX hR => s_X10_keep  hX hR h)

-- MustNotStop.again(I)Z
abbrev rm_X10_again : Room := { frames := 2, cells := 0, slots := 0, locals := 86 }
theorem nk_X10_again : MNk yX10_again RX10 1 := ⟨rfl, by decide, by decide, by decide +kernel⟩
def P_X10_again (F : Nat) (w : Wd) (x1 : Int32) : Option (Int32 × Wd) := (if x1 < 0 then some (0, w) else (if (3 : Int32) ≤ x1 then some (0, w) else (if ((ishrI (gI w 0 10) x1) &&& 1) = 0 then some (0, w) else gd (inB x1 3) (lt (82 + 2 * x1.toNatClampNeg) (fun a6 => gd (isX1 a6) (bnv (P_X1_copy F w 23 a6) (fun w7 => bnv (P_X4_clear F w7 ) (fun w8 => some (1, w8)))))))))
set_option maxRecDepth 100000 in
set_option maxHeartbeats 4000000 in
theorem s_X10_again {X : Cx} {S : Sx} {r : Int32 × Wd} {F : Nat} {w : Wd} {x1 : Int32}  (hX : Ok X S cX10_again RX10 2 rm_X10_again) (hR : HRt X S cX10_again .boolean r) (hP : P_X10_again F w x1 = some r) : V X S w 0 [(0, rf S 0), (1, .int x1)] [] := by
  unfold P_X10_again at hP
  refine V_iload_n hX dX10_again_0 1 rfl ?_
  refine V_if_lt (tgt := 24) hX dX10_again_1 (by decide) (fun hc2 => ?_) (fun hc2 => ?_)
  · replace hP := ite_t hc2 hP
    refine V_iconst (v := 0) hX dX10_again_24 (by decide) ?_
    exact hR _ _ _ _ (Option.some.inj hP) rfl dX10_again_25
  · replace hP := ite_f hc2 hP
    refine V_iload_n hX dX10_again_4 1 rfl ?_
    refine V_aload_n hX dX10_again_5 0 rfl ?_
    refine V_getF (j := 61) hX fk_X10_75 tb_0 (fun _ _ _ => rfl) dX10_again_6 ?_
    refine V_alenB (v := 3) hX tb_61 (by decide) dX10_again_9 ?_
    refine V_icmp_ge (tgt := 24) hX dX10_again_10 (by decide) (fun hc3 => ?_) (fun hc3 => ?_)
    · replace hP := ite_t hc3 hP
      refine V_iconst (v := 0) hX dX10_again_24 (by decide) ?_
      exact hR _ _ _ _ (Option.some.inj hP) rfl dX10_again_25
    · replace hP := ite_f hc3 hP
      refine V_aload_n hX dX10_again_13 0 rfl ?_
      refine V_getI hX fk_X10_79 tb_0 (fun _ _ _ => rfl) dX10_again_14 ?_
      refine V_iload_n hX dX10_again_17 1 rfl ?_
      refine V_ishr hX dX10_again_18 ?_
      refine V_iconst (v := 1) hX dX10_again_19 (by decide) ?_
      refine V_iand hX dX10_again_20 ?_
      refine V_if_ne (tgt := 26) hX dX10_again_21 (by decide) (fun hc4 => ?_) (fun hc4 => ?_)
      · replace hP := ite_f hc4 hP
        refine V_aload_n hX dX10_again_26 0 rfl ?_
        refine V_getF (j := 23) hX fk_X10_58 tb_0 (fun _ _ _ => rfl) dX10_again_27 ?_
        refine V_aload_n hX dX10_again_30 0 rfl ?_
        refine V_getF (j := 61) hX fk_X10_75 tb_0 (fun _ _ _ => rfl) dX10_again_31 ?_
        refine V_iload_n hX dX10_again_34 1 rfl ?_
        obtain ⟨hi5, hP⟩ := gd_e hP
        refine V_aald hX tb_61 hi5 dX10_again_35 ?_
        refine V_topr (fun a6 ea6 => ?_)
        replace hP := lt_r ea6 hP
        obtain ⟨ha6, hP⟩ := gd_e hP
        obtain ⟨w7, hcw7, hP⟩ := bnv_e hP
        refine V_callVv (As := [rf S a6]) (rest := []) hX mk_X10_180 nk_X1_copy (fun l => c_X1_copy l S (by decide) ha6 hcw7) tb_23 rfl ⟨rfl, rfl, Nat.le_of_ble_eq_true rfl, Nat.le_of_ble_eq_true rfl⟩ rfl rfl (Nat.le_of_ble_eq_true rfl) dX10_again_36 ?_
        refine V_aload_n hX dX10_again_39 0 rfl ?_
        refine V_getF (j := 29) hX fk_X10_71 tb_0 (fun _ _ _ => rfl) dX10_again_40 ?_
        obtain ⟨w8, hcw8, hP⟩ := bnv_e hP
        refine V_callVv (As := []) (rest := []) hX mk_X10_115 nk_X4_clear (fun l => c_X4_clear l S  hcw8) tb_29 rfl ⟨rfl, rfl, Nat.le_of_ble_eq_true rfl, Nat.le_of_ble_eq_true rfl⟩ rfl rfl (Nat.le_of_ble_eq_true rfl) dX10_again_43 ?_
        refine V_iconst (v := 1) hX dX10_again_46 (by decide) ?_
        exact hR _ _ _ _ (Option.some.inj hP) rfl dX10_again_47
      · replace hP := ite_t hc4 hP
        refine V_iconst (v := 0) hX dX10_again_24 (by decide) ?_
        exact hR _ _ _ _ (Option.some.inj hP) rfl dX10_again_25
theorem c_X10_again (l : Launch) (S : Sx) {r : Int32 × Wd} {F : Nat} {w : Wd} {x1 : Int32}  (h : P_X10_again F w x1 = some r) : Met l yX10_again (wsg yX10_again cX10_again 2 (some .boolean)) rm_X10_again (PC S w [rf S 0, .int x1]) (QCi S r) 0 0 (Aw S) :=
  met_i (by decide) rfl (Nat.le_of_ble_eq_true rfl) ⟨rfl, rfl⟩ (fun X hX hR => s_X10_again  hX hR h)

-- MustNotStop.countFurther(I)I
abbrev rm_X10_countFurther : Room := { frames := 1, cells := 0, slots := 0, locals := 64 }
theorem nk_X10_countFurther : MNk yX10_countFurther RX10 1 := ⟨rfl, by decide, by decide, by decide +kernel⟩
def P_X10_countFurther (F : Nat) (w : Wd) (x1 : Int32) : Option (Int32 × Wd) := (if x1 = 9 then some (gI w 23 8, w) else (if x1 = 10 then some (gI w 5 3, w) else (if x1 = 11 then some (gI w 5 4, w) else (if x1 = 12 then some (gI w 5 5, w) else (if x1 = 13 then some (gI w 76 3, w) else (if x1 = 14 then some (gI w 29 2, w) else (if x1 = 15 then some (gI w 3 1, w) else (if x1 = 16 then some (gI w 1 1, w) else some ((-100), w)))))))))
set_option maxRecDepth 100000 in
set_option maxHeartbeats 4000000 in
theorem s_X10_countFurther {X : Cx} {S : Sx} {r : Int32 × Wd} {F : Nat} {w : Wd} {x1 : Int32}  (hX : Ok X S cX10_countFurther RX10 2 rm_X10_countFurther) (hR : HRt X S cX10_countFurther .int r) (hP : P_X10_countFurther F w x1 = some r) : V X S w 0 [(0, rf S 0), (1, .int x1)] [] := by
  unfold P_X10_countFurther at hP
  refine V_iload_n hX dX10_countFurther_0 1 rfl ?_
  by_cases hc2 : x1 = 9
  · replace hP := ite_t hc2 hP
    refine V_tableIn (tgt := 48) hX dX10_countFurther_1 (by rw [hc2]; decide) (by rw [hc2]; decide) (by rw [hc2] <;> rfl) (by decide) ?_
    refine V_aload_n hX dX10_countFurther_48 0 rfl ?_
    refine V_getF (j := 23) hX fk_X10_58 tb_0 (fun _ _ _ => rfl) dX10_countFurther_49 ?_
    refine V_getI hX fk_X10_145 tb_23 (fun _ _ _ => rfl) dX10_countFurther_52 ?_
    exact hR _ _ _ _ (Option.some.inj hP) rfl dX10_countFurther_55
  replace hP := ite_f hc2 hP
  by_cases hc3 : x1 = 10
  · replace hP := ite_t hc3 hP
    refine V_tableIn (tgt := 56) hX dX10_countFurther_1 (by rw [hc3]; decide) (by rw [hc3]; decide) (by rw [hc3] <;> rfl) (by decide) ?_
    refine V_aload_n hX dX10_countFurther_56 0 rfl ?_
    refine V_getF (j := 5) hX fk_X10_34 tb_0 (fun _ _ _ => rfl) dX10_countFurther_57 ?_
    refine V_getI hX fk_X10_151 tb_5 (fun _ _ _ => rfl) dX10_countFurther_60 ?_
    exact hR _ _ _ _ (Option.some.inj hP) rfl dX10_countFurther_63
  replace hP := ite_f hc3 hP
  by_cases hc4 : x1 = 11
  · replace hP := ite_t hc4 hP
    refine V_tableIn (tgt := 64) hX dX10_countFurther_1 (by rw [hc4]; decide) (by rw [hc4]; decide) (by rw [hc4] <;> rfl) (by decide) ?_
    refine V_aload_n hX dX10_countFurther_64 0 rfl ?_
    refine V_getF (j := 5) hX fk_X10_34 tb_0 (fun _ _ _ => rfl) dX10_countFurther_65 ?_
    refine V_getI hX fk_X10_154 tb_5 (fun _ _ _ => rfl) dX10_countFurther_68 ?_
    exact hR _ _ _ _ (Option.some.inj hP) rfl dX10_countFurther_71
  replace hP := ite_f hc4 hP
  by_cases hc5 : x1 = 12
  · replace hP := ite_t hc5 hP
    refine V_tableIn (tgt := 72) hX dX10_countFurther_1 (by rw [hc5]; decide) (by rw [hc5]; decide) (by rw [hc5] <;> rfl) (by decide) ?_
    refine V_aload_n hX dX10_countFurther_72 0 rfl ?_
    refine V_getF (j := 5) hX fk_X10_34 tb_0 (fun _ _ _ => rfl) dX10_countFurther_73 ?_
    refine V_getI hX fk_X10_157 tb_5 (fun _ _ _ => rfl) dX10_countFurther_76 ?_
    exact hR _ _ _ _ (Option.some.inj hP) rfl dX10_countFurther_79
  replace hP := ite_f hc5 hP
  by_cases hc6 : x1 = 13
  · replace hP := ite_t hc6 hP
    refine V_tableIn (tgt := 80) hX dX10_countFurther_1 (by rw [hc6]; decide) (by rw [hc6]; decide) (by rw [hc6] <;> rfl) (by decide) ?_
    refine V_aload_n hX dX10_countFurther_80 0 rfl ?_
    refine V_getF (j := 76) hX fk_X10_93 tb_0 (fun _ _ _ => rfl) dX10_countFurther_81 ?_
    refine V_getI hX fk_X10_312 tb_76 (fun _ _ _ => rfl) dX10_countFurther_84 ?_
    exact hR _ _ _ _ (Option.some.inj hP) rfl dX10_countFurther_87
  replace hP := ite_f hc6 hP
  by_cases hc7 : x1 = 14
  · replace hP := ite_t hc7 hP
    refine V_tableIn (tgt := 88) hX dX10_countFurther_1 (by rw [hc7]; decide) (by rw [hc7]; decide) (by rw [hc7] <;> rfl) (by decide) ?_
    refine V_aload_n hX dX10_countFurther_88 0 rfl ?_
    refine V_getF (j := 29) hX fk_X10_71 tb_0 (fun _ _ _ => rfl) dX10_countFurther_89 ?_
    refine V_getI hX fk_X10_363 tb_29 (fun _ _ _ => rfl) dX10_countFurther_92 ?_
    exact hR _ _ _ _ (Option.some.inj hP) rfl dX10_countFurther_95
  replace hP := ite_f hc7 hP
  by_cases hc8 : x1 = 15
  · replace hP := ite_t hc8 hP
    refine V_tableIn (tgt := 96) hX dX10_countFurther_1 (by rw [hc8]; decide) (by rw [hc8]; decide) (by rw [hc8] <;> rfl) (by decide) ?_
    refine V_aload_n hX dX10_countFurther_96 0 rfl ?_
    refine V_getF (j := 3) hX fk_X10_19 tb_0 (fun _ _ _ => rfl) dX10_countFurther_97 ?_
    refine V_getI hX fk_X10_364 tb_3 (fun _ _ _ => rfl) dX10_countFurther_100 ?_
    exact hR _ _ _ _ (Option.some.inj hP) rfl dX10_countFurther_103
  replace hP := ite_f hc8 hP
  by_cases hc9 : x1 = 16
  · replace hP := ite_t hc9 hP
    refine V_tableIn (tgt := 104) hX dX10_countFurther_1 (by rw [hc9]; decide) (by rw [hc9]; decide) (by rw [hc9] <;> rfl) (by decide) ?_
    refine V_aload_n hX dX10_countFurther_104 0 rfl ?_
    refine V_getF (j := 1) hX fk_X10_10 tb_0 (fun _ _ _ => rfl) dX10_countFurther_105 ?_
    refine V_getI hX fk_X10_97 tb_1 (fun _ _ _ => rfl) dX10_countFurther_108 ?_
    exact hR _ _ _ _ (Option.some.inj hP) rfl dX10_countFurther_111
  replace hP := ite_f hc9 hP
  refine V_tableOut (tgt := 112) hX dX10_countFurther_1 (ts_out (fun k h1 h2 => by
      have hk : k = 9 ∨ k = 10 ∨ k = 11 ∨ k = 12 ∨ k = 13 ∨ k = 14 ∨ k = 15 ∨ k = 16 := by omega
      rcases hk with rfl | rfl | rfl | rfl | rfl | rfl | rfl | rfl
      · exact fun e => hc2 (by rw [e]; rfl)
      · exact fun e => hc3 (by rw [e]; rfl)
      · exact fun e => hc4 (by rw [e]; rfl)
      · exact fun e => hc5 (by rw [e]; rfl)
      · exact fun e => hc6 (by rw [e]; rfl)
      · exact fun e => hc7 (by rw [e]; rfl)
      · exact fun e => hc8 (by rw [e]; rfl)
      · exact fun e => hc9 (by rw [e]; rfl)
      )) (by decide) ?_
  refine V_bipush (v := (-100)) hX dX10_countFurther_112 (by decide) ?_
  exact hR _ _ _ _ (Option.some.inj hP) rfl dX10_countFurther_114
theorem c_X10_countFurther (l : Launch) (S : Sx) {r : Int32 × Wd} {F : Nat} {w : Wd} {x1 : Int32}  (h : P_X10_countFurther F w x1 = some r) : Met l yX10_countFurther (wsg yX10_countFurther cX10_countFurther 2 (some .int)) rm_X10_countFurther (PC S w [rf S 0, .int x1]) (QCi S r) 0 0 (Aw S) :=
  met_i (by decide) rfl (Nat.le_of_ble_eq_true rfl) ⟨rfl, rfl⟩ (fun X hX hR => s_X10_countFurther  hX hR h)

-- MustNotStop.count(I)I
abbrev rm_X10_count : Room := { frames := 2, cells := 0, slots := 0, locals := 85 }
theorem nk_X10_count : MNk yX10_count RX10 1 := ⟨rfl, by decide, by decide, by decide +kernel⟩
def P_X10_count (F : Nat) (w : Wd) (x1 : Int32) : Option (Int32 × Wd) := (if x1 = 0 then some (gI w 6 2, w) else (if x1 = 1 then some (gI w 9 2, w) else (if x1 = 2 then some (gI w 23 1, w) else (if x1 = 3 then some (gI w 23 2, w) else (if x1 = 4 then some (gI w 23 3, w) else (if x1 = 5 then some (gI w 23 4, w) else (if x1 = 6 then some (gI w 23 5, w) else (if x1 = 7 then some (gI w 23 6, w) else (if x1 = 8 then some (gI w 23 7, w) else bnd (P_X10_countFurther F w x1) (fun x12 w11 => some (x12, w11)))))))))))
set_option maxRecDepth 100000 in
set_option maxHeartbeats 4000000 in
theorem s_X10_count {X : Cx} {S : Sx} {r : Int32 × Wd} {F : Nat} {w : Wd} {x1 : Int32}  (hX : Ok X S cX10_count RX10 2 rm_X10_count) (hR : HRt X S cX10_count .int r) (hP : P_X10_count F w x1 = some r) : V X S w 0 [(0, rf S 0), (1, .int x1)] [] := by
  unfold P_X10_count at hP
  refine V_iload_n hX dX10_count_0 1 rfl ?_
  by_cases hc2 : x1 = 0
  · replace hP := ite_t hc2 hP
    refine V_tableIn (tgt := 52) hX dX10_count_1 (by rw [hc2]; decide) (by rw [hc2]; decide) (by rw [hc2] <;> rfl) (by decide) ?_
    refine V_aload_n hX dX10_count_52 0 rfl ?_
    refine V_getF (j := 5) hX fk_X10_34 tb_0 (fun _ _ _ => rfl) dX10_count_53 ?_
    refine V_getF (j := 6) hX fk_X10_38 tb_5 (fun _ _ _ => rfl) dX10_count_56 ?_
    refine V_getI hX fk_X10_301 tb_6 (fun _ _ _ => rfl) dX10_count_59 ?_
    exact hR _ _ _ _ (Option.some.inj hP) rfl dX10_count_62
  replace hP := ite_f hc2 hP
  by_cases hc3 : x1 = 1
  · replace hP := ite_t hc3 hP
    refine V_tableIn (tgt := 63) hX dX10_count_1 (by rw [hc3]; decide) (by rw [hc3]; decide) (by rw [hc3] <;> rfl) (by decide) ?_
    refine V_aload_n hX dX10_count_63 0 rfl ?_
    refine V_getF (j := 5) hX fk_X10_34 tb_0 (fun _ _ _ => rfl) dX10_count_64 ?_
    refine V_getF (j := 9) hX fk_X10_42 tb_5 (fun _ _ _ => rfl) dX10_count_67 ?_
    refine V_getI hX fk_X10_301 tb_9 (fun _ _ _ => rfl) dX10_count_70 ?_
    exact hR _ _ _ _ (Option.some.inj hP) rfl dX10_count_73
  replace hP := ite_f hc3 hP
  by_cases hc4 : x1 = 2
  · replace hP := ite_t hc4 hP
    refine V_tableIn (tgt := 74) hX dX10_count_1 (by rw [hc4]; decide) (by rw [hc4]; decide) (by rw [hc4] <;> rfl) (by decide) ?_
    refine V_aload_n hX dX10_count_74 0 rfl ?_
    refine V_getF (j := 23) hX fk_X10_58 tb_0 (fun _ _ _ => rfl) dX10_count_75 ?_
    refine V_getI hX fk_X10_148 tb_23 (fun _ _ _ => rfl) dX10_count_78 ?_
    exact hR _ _ _ _ (Option.some.inj hP) rfl dX10_count_81
  replace hP := ite_f hc4 hP
  by_cases hc5 : x1 = 3
  · replace hP := ite_t hc5 hP
    refine V_tableIn (tgt := 82) hX dX10_count_1 (by rw [hc5]; decide) (by rw [hc5]; decide) (by rw [hc5] <;> rfl) (by decide) ?_
    refine V_aload_n hX dX10_count_82 0 rfl ?_
    refine V_getF (j := 23) hX fk_X10_58 tb_0 (fun _ _ _ => rfl) dX10_count_83 ?_
    refine V_getI hX fk_X10_233 tb_23 (fun _ _ _ => rfl) dX10_count_86 ?_
    exact hR _ _ _ _ (Option.some.inj hP) rfl dX10_count_89
  replace hP := ite_f hc5 hP
  by_cases hc6 : x1 = 4
  · replace hP := ite_t hc6 hP
    refine V_tableIn (tgt := 90) hX dX10_count_1 (by rw [hc6]; decide) (by rw [hc6]; decide) (by rw [hc6] <;> rfl) (by decide) ?_
    refine V_aload_n hX dX10_count_90 0 rfl ?_
    refine V_getF (j := 23) hX fk_X10_58 tb_0 (fun _ _ _ => rfl) dX10_count_91 ?_
    refine V_getI hX fk_X10_357 tb_23 (fun _ _ _ => rfl) dX10_count_94 ?_
    exact hR _ _ _ _ (Option.some.inj hP) rfl dX10_count_97
  replace hP := ite_f hc6 hP
  by_cases hc7 : x1 = 5
  · replace hP := ite_t hc7 hP
    refine V_tableIn (tgt := 98) hX dX10_count_1 (by rw [hc7]; decide) (by rw [hc7]; decide) (by rw [hc7] <;> rfl) (by decide) ?_
    refine V_aload_n hX dX10_count_98 0 rfl ?_
    refine V_getF (j := 23) hX fk_X10_58 tb_0 (fun _ _ _ => rfl) dX10_count_99 ?_
    refine V_getI hX fk_X10_236 tb_23 (fun _ _ _ => rfl) dX10_count_102 ?_
    exact hR _ _ _ _ (Option.some.inj hP) rfl dX10_count_105
  replace hP := ite_f hc7 hP
  by_cases hc8 : x1 = 6
  · replace hP := ite_t hc8 hP
    refine V_tableIn (tgt := 106) hX dX10_count_1 (by rw [hc8]; decide) (by rw [hc8]; decide) (by rw [hc8] <;> rfl) (by decide) ?_
    refine V_aload_n hX dX10_count_106 0 rfl ?_
    refine V_getF (j := 23) hX fk_X10_58 tb_0 (fun _ _ _ => rfl) dX10_count_107 ?_
    refine V_getI hX fk_X10_260 tb_23 (fun _ _ _ => rfl) dX10_count_110 ?_
    exact hR _ _ _ _ (Option.some.inj hP) rfl dX10_count_113
  replace hP := ite_f hc8 hP
  by_cases hc9 : x1 = 7
  · replace hP := ite_t hc9 hP
    refine V_tableIn (tgt := 114) hX dX10_count_1 (by rw [hc9]; decide) (by rw [hc9]; decide) (by rw [hc9] <;> rfl) (by decide) ?_
    refine V_aload_n hX dX10_count_114 0 rfl ?_
    refine V_getF (j := 23) hX fk_X10_58 tb_0 (fun _ _ _ => rfl) dX10_count_115 ?_
    refine V_getI hX fk_X10_199 tb_23 (fun _ _ _ => rfl) dX10_count_118 ?_
    exact hR _ _ _ _ (Option.some.inj hP) rfl dX10_count_121
  replace hP := ite_f hc9 hP
  by_cases hc10 : x1 = 8
  · replace hP := ite_t hc10 hP
    refine V_tableIn (tgt := 122) hX dX10_count_1 (by rw [hc10]; decide) (by rw [hc10]; decide) (by rw [hc10] <;> rfl) (by decide) ?_
    refine V_aload_n hX dX10_count_122 0 rfl ?_
    refine V_getF (j := 23) hX fk_X10_58 tb_0 (fun _ _ _ => rfl) dX10_count_123 ?_
    refine V_getI hX fk_X10_250 tb_23 (fun _ _ _ => rfl) dX10_count_126 ?_
    exact hR _ _ _ _ (Option.some.inj hP) rfl dX10_count_129
  replace hP := ite_f hc10 hP
  refine V_tableOut (tgt := 130) hX dX10_count_1 (ts_out (fun k h1 h2 => by
      have hk : k = 0 ∨ k = 1 ∨ k = 2 ∨ k = 3 ∨ k = 4 ∨ k = 5 ∨ k = 6 ∨ k = 7 ∨ k = 8 := by omega
      rcases hk with rfl | rfl | rfl | rfl | rfl | rfl | rfl | rfl | rfl
      · exact fun e => hc2 (by rw [e]; rfl)
      · exact fun e => hc3 (by rw [e]; rfl)
      · exact fun e => hc4 (by rw [e]; rfl)
      · exact fun e => hc5 (by rw [e]; rfl)
      · exact fun e => hc6 (by rw [e]; rfl)
      · exact fun e => hc7 (by rw [e]; rfl)
      · exact fun e => hc8 (by rw [e]; rfl)
      · exact fun e => hc9 (by rw [e]; rfl)
      · exact fun e => hc10 (by rw [e]; rfl)
      )) (by decide) ?_
  refine V_aload_n hX dX10_count_130 0 rfl ?_
  refine V_iload_n hX dX10_count_131 1 rfl ?_
  obtain ⟨x12, w11, hcw11, hP⟩ := bnd_e hP
  refine V_callVi (As := [.int x1]) (rest := []) hX mk_X10_360 nk_X10_countFurther (fun l => c_X10_countFurther l S  hcw11) tb_0 rfl ⟨rfl, rfl, Nat.le_of_ble_eq_true rfl, Nat.le_of_ble_eq_true rfl⟩ rfl rfl (Nat.le_of_ble_eq_true rfl) dX10_count_132 ?_
  exact hR _ _ _ _ (Option.some.inj hP) rfl dX10_count_135
theorem c_X10_count (l : Launch) (S : Sx) {r : Int32 × Wd} {F : Nat} {w : Wd} {x1 : Int32}  (h : P_X10_count F w x1 = some r) : Met l yX10_count (wsg yX10_count cX10_count 2 (some .int)) rm_X10_count (PC S w [rf S 0, .int x1]) (QCi S r) 0 0 (Aw S) :=
  met_i (by decide) rfl (Nat.le_of_ble_eq_true rfl) ⟨rfl, rfl⟩ (fun X hX hR => s_X10_count  hX hR h)

-- MustNotStop.row(I)J
abbrev rm_X10_row : Room := { frames := 2, cells := 0, slots := 0, locals := 85 }
theorem nk_X10_row : MNk yX10_row RX10 1 := ⟨rfl, by decide, by decide, by decide +kernel⟩
def K_X10_row_15 (F : Nat) (x1 : Int32)  (w : Wd)  : Option (Option Int64 × Wd) := some (none, w)
set_option maxRecDepth 100000 in
set_option maxHeartbeats 4000000 in
theorem sK_X10_row_15 {X : Cx} {S : Sx} {r : Option Int64 × Wd} {F : Nat} {x1 : Int32}  {w : Wd}  (hX : Ok X S cX10_row RX10 2 rm_X10_row) (hR : HRxl X S cX10_row r)    (hP : K_X10_row_15 F x1  w  = some r) : V X S w 15 [] [] := by
  unfold K_X10_row_15 at hP
  exact hR.2 _ _ _ _ (Option.some.inj hP) dX10_row_15
def P_X10_row (F : Nat) (w : Wd) (x1 : Int32) : Option (Option Int64 × Wd) := (if x1 < 0 then K_X10_row_15 F x1  w  else (if x1 < (gI w 3 1) then bnd (P_X7_at F w x1) (fun x5 w4 => some (some x5, w4)) else K_X10_row_15 F x1  w ))
set_option maxRecDepth 100000 in
set_option maxHeartbeats 4000000 in
theorem s_X10_row {X : Cx} {S : Sx} {r : Option Int64 × Wd} {F : Nat} {w : Wd} {x1 : Int32}  (hX : Ok X S cX10_row RX10 2 rm_X10_row) (hR : HRxl X S cX10_row r) (hP : P_X10_row F w x1 = some r) : V X S w 0 [(0, rf S 0), (1, .int x1)] [] := by
  unfold P_X10_row at hP
  refine V_iload_n hX dX10_row_0 1 rfl ?_
  refine V_if_lt (tgt := 15) hX dX10_row_1 (by decide) (fun hc2 => ?_) (fun hc2 => ?_)
  · replace hP := ite_t hc2 hP
    refine V_sub (lv' := []) [] rfl ?_
    exact sK_X10_row_15 hX hR    hP
  · replace hP := ite_f hc2 hP
    refine V_iload_n hX dX10_row_4 1 rfl ?_
    refine V_aload_n hX dX10_row_5 0 rfl ?_
    refine V_getF (j := 3) hX fk_X10_19 tb_0 (fun _ _ _ => rfl) dX10_row_6 ?_
    refine V_getI hX fk_X10_364 tb_3 (fun _ _ _ => rfl) dX10_row_9 ?_
    refine V_icmp_lt (tgt := 23) hX dX10_row_12 (by decide) (fun hc3 => ?_) (fun hc3 => ?_)
    · replace hP := ite_t hc3 hP
      refine V_aload_n hX dX10_row_23 0 rfl ?_
      refine V_getF (j := 3) hX fk_X10_19 tb_0 (fun _ _ _ => rfl) dX10_row_24 ?_
      refine V_iload_n hX dX10_row_27 1 rfl ?_
      obtain ⟨x5, w4, hcw4, hP⟩ := bnd_e hP
      refine V_callVl (As := [.int x1]) (rest := []) hX mk_X10_365 nk_X7_at (fun l => c_X7_at l S  hcw4) tb_3 rfl ⟨rfl, rfl, Nat.le_of_ble_eq_true rfl, Nat.le_of_ble_eq_true rfl⟩ rfl rfl (Nat.le_of_ble_eq_true rfl) dX10_row_28 ?_
      exact hR.1 _ _ _ _ (Option.some.inj hP) dX10_row_31
    · replace hP := ite_f hc3 hP
      refine V_sub (lv' := []) [] rfl ?_
      exact sK_X10_row_15 hX hR    hP

-- MustNotStopModel.thrown()I
abbrev rm_X11_thrown : Room := { frames := 1, cells := 0, slots := 0, locals := 64 }
theorem nk_X11_thrown : MNk yX11_thrown RX11 0 := ⟨rfl, by decide, by decide, by decide +kernel⟩
def P_X11_thrown (F : Nat) (w : Wd)  : Option (Int32 × Wd) := some (gI w 88 0, w)
set_option maxRecDepth 100000 in
set_option maxHeartbeats 4000000 in
theorem s_X11_thrown {X : Cx} {S : Sx} {r : Int32 × Wd} {F : Nat} {w : Wd}   (hX : Ok X S cX11_thrown RX11 1 rm_X11_thrown) (hR : HRt X S cX11_thrown .int r) (hP : P_X11_thrown F w  = some r) : V X S w 0 [(0, rf S 88)] [] := by
  unfold P_X11_thrown at hP
  refine V_aload_n hX dX11_thrown_0 0 rfl ?_
  refine V_getI hX fk_X11_102 tb_88 (fun _ _ _ => rfl) dX11_thrown_1 ?_
  exact hR _ _ _ _ (Option.some.inj hP) rfl dX11_thrown_4
theorem c_X11_thrown (l : Launch) (S : Sx) {r : Int32 × Wd} {F : Nat} {w : Wd}   (h : P_X11_thrown F w  = some r) : Met l yX11_thrown (wsg yX11_thrown cX11_thrown 1 (some .int)) rm_X11_thrown (PC S w [rf S 88]) (QCi S r) 0 0 (Aw S) :=
  met_i (by decide) rfl (Nat.le_of_ble_eq_true rfl) ⟨rfl, rfl⟩ (fun X hX hR => s_X11_thrown  hX hR h)

-- MustNotStopModel.refuse()I
abbrev rm_X11_refuse : Room := { frames := 1, cells := 0, slots := 0, locals := 64 }
theorem nk_X11_refuse : MNk yX11_refuse RX11 0 := ⟨rfl, by decide, by decide, by decide +kernel⟩
def P_X11_refuse (F : Nat) (w : Wd)  : Option (Int32 × Wd) := lt (sI w 88 0 1) (fun w1 => some (0, w1))
set_option maxRecDepth 100000 in
set_option maxHeartbeats 4000000 in
theorem s_X11_refuse {X : Cx} {S : Sx} {r : Int32 × Wd} {F : Nat} {w : Wd}   (hX : Ok X S cX11_refuse RX11 1 rm_X11_refuse) (hR : HRt X S cX11_refuse .int r) (hP : P_X11_refuse F w  = some r) : V X S w 0 [(0, rf S 88)] [] := by
  unfold P_X11_refuse at hP
  refine V_aload_n hX dX11_refuse_0 0 rfl ?_
  refine V_iconst (v := 1) hX dX11_refuse_1 (by decide) ?_
  refine V_putI hX fw_X11_102 tb_88 (fun _ _ _ => ⟨Nat.le_of_ble_eq_true rfl, rfl⟩) dX11_refuse_2 (fun w1 ew1 => ?_)
  replace hP := lt_r ew1 hP
  refine V_iconst (v := 0) hX dX11_refuse_5 (by decide) ?_
  exact hR _ _ _ _ (Option.some.inj hP) rfl dX11_refuse_6
theorem c_X11_refuse (l : Launch) (S : Sx) {r : Int32 × Wd} {F : Nat} {w : Wd}   (h : P_X11_refuse F w  = some r) : Met l yX11_refuse (wsg yX11_refuse cX11_refuse 1 (some .int)) rm_X11_refuse (PC S w [rf S 88]) (QCi S r) 0 0 (Aw S) :=
  met_i (by decide) rfl (Nat.le_of_ble_eq_true rfl) ⟨rfl, rfl⟩ (fun X hX hR => s_X11_refuse  hX hR h)

-- MustNotStopModel.in(JJJ)Z
abbrev rm_X11_in : Room := { frames := 1, cells := 0, slots := 0, locals := 64 }
theorem nk_X11_in : MNk yX11_in RX11 3 := ⟨rfl, by decide, by decide, by decide +kernel⟩
def P_X11_in (F : Nat) (w : Wd) (x1 : Int64) (x2 : Int64) (x3 : Int64) : Option (Int32 × Wd) := (if (lg_cmp x1 x2) < 0 then some (0, w) else lt (if (0 : Int32) < (lg_cmp x1 x3) then 0 else 1 : Int32) (fun x6 => gd (isZO x6) (some (x6, w))))
set_option maxRecDepth 100000 in
set_option maxHeartbeats 4000000 in
theorem s_X11_in {X : Cx} {S : Sx} {r : Int32 × Wd} {F : Nat} {w : Wd} {x1 : Int64} {x2 : Int64} {x3 : Int64}  (hX : Ok X S cX11_in RX11 6 rm_X11_in) (hR : HRt X S cX11_in .boolean r) (hP : P_X11_in F w x1 x2 x3 = some r) : V X S w 0 [(0, .long x1), (2, .long x2), (4, .long x3)] [] := by
  unfold P_X11_in at hP
  refine V_lload_n hX dX11_in_0 0 rfl ?_
  refine V_lload_n hX dX11_in_1 1 rfl ?_
  refine V_lcmp hX dX11_in_2 ?_
  refine V_if_lt (tgt := 17) hX dX11_in_3 (by decide) (fun hc4 => ?_) (fun hc4 => ?_)
  · replace hP := ite_t hc4 hP
    refine V_iconst (v := 0) hX dX11_in_17 (by decide) ?_
    exact hR _ _ _ _ (Option.some.inj hP) rfl dX11_in_18
  · replace hP := ite_f hc4 hP
    refine V_lload_n hX dX11_in_6 0 rfl ?_
    refine V_lload hX dX11_in_7 2 rfl ?_
    refine V_lcmp hX dX11_in_9 ?_
    have k8 : V X S w 18 [(0, .long x1), (2, .long x2), (4, .long x3)] [.int (if (0 : Int32) < (lg_cmp x1 x3) then 0 else 1)] := by
      refine V_topi (fun x6 ex6 => ?_)
      replace hP := lt_r ex6 hP
      obtain ⟨hz7, hP⟩ := gd_e hP
      exact hR _ _ _ _ (Option.some.inj hP) (nar_z hz7) dX11_in_18
    refine V_if_gt (tgt := 17) hX dX11_in_10 (by decide) (fun hc5 => ?_) (fun hc5 => ?_)
    · refine V_iconst (v := 0) hX dX11_in_17 (by decide) ?_
      refine V_selT (c := (0 : Int32) < (lg_cmp x1 x3)) (b := 1) hc5 ?_
      exact k8
    · refine V_iconst (v := 1) hX dX11_in_13 (by decide) ?_
      refine V_goto (tgt := 18) hX dX11_in_14 (by decide) ?_
      refine V_selF (c := (0 : Int32) < (lg_cmp x1 x3)) (a := 0) hc5 ?_
      exact k8
theorem c_X11_in (l : Launch) (S : Sx) {r : Int32 × Wd} {F : Nat} {w : Wd} {x1 : Int64} {x2 : Int64} {x3 : Int64}  (h : P_X11_in F w x1 x2 x3 = some r) : Met l yX11_in (wsg yX11_in cX11_in 6 (some .boolean)) rm_X11_in (PC S w [.long x1, .long x2, .long x3]) (QCi S r) 0 0 (Aw S) :=
  met_i (by decide) rfl (Nat.le_of_ble_eq_true rfl) ⟨rfl, rfl⟩ (fun X hX hR => s_X11_in  hX hR h)

-- MustNotStopModel.has(II)Z
abbrev rm_X11_has : Room := { frames := 1, cells := 0, slots := 0, locals := 64 }
theorem nk_X11_has : MNk yX11_has RX11 2 := ⟨rfl, by decide, by decide, by decide +kernel⟩
def P_X11_has (F : Nat) (w : Wd) (x1 : Int32) (x2 : Int32) : Option (Int32 × Wd) := lt (if ((ishrI x1 x2) &&& 1) = 1 then 1 else 0 : Int32) (fun x4 => gd (isZO x4) (some (x4, w)))
set_option maxRecDepth 100000 in
set_option maxHeartbeats 4000000 in
theorem s_X11_has {X : Cx} {S : Sx} {r : Int32 × Wd} {F : Nat} {w : Wd} {x1 : Int32} {x2 : Int32}  (hX : Ok X S cX11_has RX11 2 rm_X11_has) (hR : HRt X S cX11_has .boolean r) (hP : P_X11_has F w x1 x2 = some r) : V X S w 0 [(0, .int x1), (1, .int x2)] [] := by
  unfold P_X11_has at hP
  refine V_iload_n hX dX11_has_0 0 rfl ?_
  refine V_iload_n hX dX11_has_1 1 rfl ?_
  refine V_ishr hX dX11_has_2 ?_
  refine V_iconst (v := 1) hX dX11_has_3 (by decide) ?_
  refine V_iand hX dX11_has_4 ?_
  refine V_iconst (v := 1) hX dX11_has_5 (by decide) ?_
  have k6 : V X S w 14 [(0, .int x1), (1, .int x2)] [.int (if ((ishrI x1 x2) &&& 1) = 1 then 1 else 0)] := by
    refine V_topi (fun x4 ex4 => ?_)
    replace hP := lt_r ex4 hP
    obtain ⟨hz5, hP⟩ := gd_e hP
    exact hR _ _ _ _ (Option.some.inj hP) (nar_z hz5) dX11_has_14
  refine V_icmp_ne (tgt := 13) hX dX11_has_6 (by decide) (fun hc3 => ?_) (fun hc3 => ?_)
  · refine V_iconst (v := 0) hX dX11_has_13 (by decide) ?_
    refine V_selF (c := ((ishrI x1 x2) &&& 1) = 1) (a := 1) hc3 ?_
    exact k6
  · refine V_iconst (v := 1) hX dX11_has_9 (by decide) ?_
    refine V_goto (tgt := 14) hX dX11_has_10 (by decide) ?_
    refine V_selT (c := ((ishrI x1 x2) &&& 1) = 1) (b := 0) hc3 ?_
    exact k6
theorem c_X11_has (l : Launch) (S : Sx) {r : Int32 × Wd} {F : Nat} {w : Wd} {x1 : Int32} {x2 : Int32}  (h : P_X11_has F w x1 x2 = some r) : Met l yX11_has (wsg yX11_has cX11_has 2 (some .boolean)) rm_X11_has (PC S w [.int x1, .int x2]) (QCi S r) 0 0 (Aw S) :=
  met_i (by decide) rfl (Nat.le_of_ble_eq_true rfl) ⟨rfl, rfl⟩ (fun X hX hR => s_X11_has  hX hR h)

-- MustNotStopModel.flag(Z)I
abbrev rm_X11_flag : Room := { frames := 1, cells := 0, slots := 0, locals := 64 }
theorem nk_X11_flag : MNk yX11_flag RX11 1 := ⟨rfl, by decide, by decide, by decide +kernel⟩
def P_X11_flag (F : Nat) (w : Wd) (x1 : Int32) : Option (Int32 × Wd) := lt (if x1 = 0 then 0 else 1 : Int32) (fun x3 => some (x3, w))
set_option maxRecDepth 100000 in
set_option maxHeartbeats 4000000 in
theorem s_X11_flag {X : Cx} {S : Sx} {r : Int32 × Wd} {F : Nat} {w : Wd} {x1 : Int32}  (hX : Ok X S cX11_flag RX11 1 rm_X11_flag) (hR : HRt X S cX11_flag .int r) (hP : P_X11_flag F w x1 = some r) : V X S w 0 [(0, .int x1)] [] := by
  unfold P_X11_flag at hP
  refine V_iload_n hX dX11_flag_0 0 rfl ?_
  have k4 : V X S w 9 [(0, .int x1)] [.int (if x1 = 0 then 0 else 1)] := by
    refine V_topi (fun x3 ex3 => ?_)
    replace hP := lt_r ex3 hP
    exact hR _ _ _ _ (Option.some.inj hP) rfl dX11_flag_9
  refine V_if_eq (tgt := 8) hX dX11_flag_1 (by decide) (fun hc2 => ?_) (fun hc2 => ?_)
  · refine V_iconst (v := 0) hX dX11_flag_8 (by decide) ?_
    refine V_selT (c := x1 = 0) (b := 1) hc2 ?_
    exact k4
  · refine V_iconst (v := 1) hX dX11_flag_4 (by decide) ?_
    refine V_goto (tgt := 9) hX dX11_flag_5 (by decide) ?_
    refine V_selF (c := x1 = 0) (a := 0) hc2 ?_
    exact k4
theorem c_X11_flag (l : Launch) (S : Sx) {r : Int32 × Wd} {F : Nat} {w : Wd} {x1 : Int32}  (h : P_X11_flag F w x1 = some r) : Met l yX11_flag (wsg yX11_flag cX11_flag 1 (some .int)) rm_X11_flag (PC S w [.int x1]) (QCi S r) 0 0 (Aw S) :=
  met_i (by decide) rfl (Nat.le_of_ble_eq_true rfl) ⟨rfl, rfl⟩ (fun X hX hR => s_X11_flag  hX hR h)

-- MustNotStopModel.common(JJ)J
theorem nk_X11_common : MNk yX11_common RX11 2 := ⟨rfl, by decide, by decide, by decide +kernel⟩
def B_X11_common (F : Nat) (g_X11_common : Wd → Int64 → Int64 → Option (Int64 × Wd)) (w : Wd) (x1 : Int64) (x2 : Int64) : Option (Int64 × Wd) := (if (lg_cmp x2 0) = 0 then some (x1, w) else gd (neZL x2) (bnd (g_X11_common w x2 (lremL x1 x2)) (fun x6 w5 => some (x6, w5))))
set_option maxRecDepth 100000 in
set_option maxHeartbeats 4000000 in
theorem s_X11_common {X : Cx} {S : Sx} {rm rmc : Room} {r : Int64 × Wd} {F : Nat} {g_X11_common : Wd → Int64 → Int64 → Option (Int64 × Wd)} {w : Wd} {x1 : Int64} {x2 : Int64}  (hX : Ok X S cX11_common RX11 4 rm) (hR : HRl X S cX11_common r ∧ RMr rm rmc) (hg_X11_common : ∀ (l : Launch) (w : Wd) (x1 : Int64) (x2 : Int64) (r : Int64 × Wd) , g_X11_common w x1 x2 = some r → Met l yX11_common (wsg yX11_common cX11_common 4 (some .long)) rmc (PC S w [.long x1, .long x2]) (QCl S r) 0 0 (Aw S)) (hP : B_X11_common F g_X11_common w x1 x2 = some r) : V X S w 0 [(0, .long x1), (2, .long x2)] [] := by
  unfold B_X11_common at hP
  refine V_lload_n hX dX11_common_0 1 rfl ?_
  refine V_lconst (v := 0) hX dX11_common_1 rfl ?_
  refine V_lcmp hX dX11_common_2 ?_
  refine V_if_ne (tgt := 10) hX dX11_common_3 (by decide) (fun hc3 => ?_) (fun hc3 => ?_)
  · replace hP := ite_f hc3 hP
    refine V_lload_n hX dX11_common_10 1 rfl ?_
    refine V_lload_n hX dX11_common_11 0 rfl ?_
    refine V_lload_n hX dX11_common_12 1 rfl ?_
    obtain ⟨hz4, hP⟩ := gd_e hP
    refine V_lrem hX dX11_common_13 hz4 ?_
    obtain ⟨x6, w5, hcw5, hP⟩ := bnd_e hP
    refine V_callSl (As := [.long x2, .long (lremL x1 x2)]) (rest := []) hX mk_X11_106 nk_X11_common (fun l => hg_X11_common l _ _ _ _  hcw5) (rm_rec hR.2 (Nat.le_of_ble_eq_true rfl)) rfl rfl (Nat.le_of_ble_eq_true rfl) dX11_common_14 ?_
    exact hR.1 _ _ _ _ (Option.some.inj hP) dX11_common_17
  · replace hP := ite_t hc3 hP
    refine V_lload_n hX dX11_common_6 0 rfl ?_
    refine V_goto (tgt := 17) hX dX11_common_7 (by decide) ?_
    exact hR.1 _ _ _ _ (Option.some.inj hP) dX11_common_17
def D_common (F : Nat) : Nat → (Wd → Int64 → Int64 → Option (Int64 × Wd))
  | 0 => (fun _ _ _ => none)
  | n + 1 => (fun w x1 x2 => B_X11_common F (D_common F n) w x1 x2)
set_option maxRecDepth 100000 in
set_option maxHeartbeats 4000000 in
theorem cD_common (S : Sx) (F : Nat) : ∀ n : Nat, (∀ (l : Launch) (w : Wd) (x1 : Int64) (x2 : Int64) (r : Int64 × Wd) , (D_common F n) w x1 x2 = some r → Met l yX11_common (wsg yX11_common cX11_common 4 (some .long)) (rmD n) (PC S w [.long x1, .long x2]) (QCl S r) 0 0 (Aw S)) := by
  intro n
  induction n with
  | zero => exact fun _ _ _ _ _ h => nn h
  | succ n ih =>
    have ih0 := ih
    intro l w x1 x2 r  h
    exact met_l (by decide) rfl (Nat.le_of_ble_eq_true rfl) ⟨rfl, rfl⟩ (fun X hX hR => s_X11_common (F := F)  hX ⟨hR, rmD_r n⟩ ih0 h)
abbrev rm_X11_common : Room := { frames := 150, cells := 0, slots := 0, locals := 13500 }
def P_X11_common (F : Nat) (w : Wd) (x1 : Int64) (x2 : Int64) : Option (Int64 × Wd) := (D_common F 100) w x1 x2
theorem c_X11_common (l : Launch) (S : Sx) {r : Int64 × Wd} {F : Nat} {w : Wd} {x1 : Int64} {x2 : Int64}  (h : P_X11_common F w x1 x2 = some r) : Met l yX11_common (wsg yX11_common cX11_common 4 (some .long)) rm_X11_common (PC S w [.long x1, .long x2]) (QCl S r) 0 0 (Aw S) := (cD_common S F 100) l w x1 x2 r  h

-- MustNotStopModel.enters(J)V
abbrev rm_X11_enters : Room := { frames := 1, cells := 0, slots := 0, locals := 64 }
theorem nk_X11_enters : MNk yX11_enters RX11 1 := ⟨rfl, by decide, by decide, by decide +kernel⟩
def P_X11_enters (F : Nat) (w : Wd) (x1 : Int64) : Option (Wd) := gd (inB (gI w 88 1) 24) (lt (sJ w 89 (gI w 88 1).toNatClampNeg x1) (fun w3 => lt (sI w3 88 1 ((gI w3 88 1) + 1)) (fun w4 => some w4)))
set_option maxRecDepth 100000 in
set_option maxHeartbeats 4000000 in
theorem s_X11_enters {X : Cx} {S : Sx} {r : Wd} {F : Nat} {w : Wd} {x1 : Int64}  (hX : Ok X S cX11_enters RX11 3 rm_X11_enters) (hR : HRv X S cX11_enters r) (hP : P_X11_enters F w x1 = some r) : V X S w 0 [(0, rf S 88), (1, .long x1)] [] := by
  unfold P_X11_enters at hP
  refine V_aload_n hX dX11_enters_0 0 rfl ?_
  refine V_getF (j := 89) hX fk_X11_9 tb_88 (fun _ _ _ => rfl) dX11_enters_1 ?_
  refine V_aload_n hX dX11_enters_4 0 rfl ?_
  refine V_getI hX fk_X11_110 tb_88 (fun _ _ _ => rfl) dX11_enters_5 ?_
  refine V_lload_n hX dX11_enters_8 1 rfl ?_
  obtain ⟨hi2, hP⟩ := gd_e hP
  refine V_last hX tb_89 hi2 dX11_enters_9 (fun w3 ew3 => ?_)
  replace hP := lt_r ew3 hP
  refine V_aload_n hX dX11_enters_10 0 rfl ?_
  refine V_dup hX dX11_enters_11 rfl ?_
  refine V_getI hX fk_X11_110 tb_88 (fun _ _ _ => rfl) dX11_enters_12 ?_
  refine V_iconst (v := 1) hX dX11_enters_15 (by decide) ?_
  refine V_iadd hX dX11_enters_16 ?_
  refine V_putI hX fw_X11_110 tb_88 (fun _ _ _ => ⟨Nat.le_of_ble_eq_true rfl, rfl⟩) dX11_enters_17 (fun w4 ew4 => ?_)
  replace hP := lt_r ew4 hP
  exact hR _ _ _ (Option.some.inj hP) dX11_enters_20
theorem c_X11_enters (l : Launch) (S : Sx) {r : Wd} {F : Nat} {w : Wd} {x1 : Int64}  (h : P_X11_enters F w x1 = some r) : Met l yX11_enters (wsg yX11_enters cX11_enters 3 none) rm_X11_enters (PC S w [rf S 88, .long x1]) (QCv S r) 0 0 (Aw S) :=
  met_v (by decide) rfl (Nat.le_of_ble_eq_true rfl) ⟨rfl, rfl⟩ (fun X hX hR => s_X11_enters  hX hR h)

-- MustNotStopModel.isRinger(I)Z
abbrev rm_X11_isRinger : Room := { frames := 2, cells := 0, slots := 0, locals := 89 }
theorem nk_X11_isRinger : MNk yX11_isRinger RX11 1 := ⟨rfl, by decide, by decide, by decide +kernel⟩
def P_X11_isRinger (F : Nat) (w : Wd) (x1 : Int32) : Option (Int32 × Wd) := bnd (P_X11_in F w (Int32.toInt64 x1) 0 (Int32.toInt64 ((gI w 88 3) - 1))) (fun x3 w2 => gd (isZO x3) (some (x3, w2)))
set_option maxRecDepth 100000 in
set_option maxHeartbeats 4000000 in
theorem s_X11_isRinger {X : Cx} {S : Sx} {r : Int32 × Wd} {F : Nat} {w : Wd} {x1 : Int32}  (hX : Ok X S cX11_isRinger RX11 2 rm_X11_isRinger) (hR : HRt X S cX11_isRinger .boolean r) (hP : P_X11_isRinger F w x1 = some r) : V X S w 0 [(0, rf S 88), (1, .int x1)] [] := by
  unfold P_X11_isRinger at hP
  refine V_iload_n hX dX11_isRinger_0 1 rfl ?_
  refine V_i2l hX dX11_isRinger_1 ?_
  refine V_lconst (v := 0) hX dX11_isRinger_2 rfl ?_
  refine V_aload_n hX dX11_isRinger_3 0 rfl ?_
  refine V_getI hX fk_X11_113 tb_88 (fun _ _ _ => rfl) dX11_isRinger_4 ?_
  refine V_iconst (v := 1) hX dX11_isRinger_7 (by decide) ?_
  refine V_isub hX dX11_isRinger_8 ?_
  refine V_i2l hX dX11_isRinger_9 ?_
  obtain ⟨x3, w2, hcw2, hP⟩ := bnd_e hP
  refine V_callSi (As := [.long (Int32.toInt64 x1), .long 0, .long (Int32.toInt64 ((gI w 88 3) - 1))]) (rest := []) hX mk_X11_116 nk_X11_in (fun l => c_X11_in l S  hcw2) ⟨rfl, rfl, Nat.le_of_ble_eq_true rfl, Nat.le_of_ble_eq_true rfl⟩ rfl rfl (Nat.le_of_ble_eq_true rfl) dX11_isRinger_10 ?_
  obtain ⟨hz4, hP⟩ := gd_e hP
  exact hR _ _ _ _ (Option.some.inj hP) (nar_z hz4) dX11_isRinger_13
theorem c_X11_isRinger (l : Launch) (S : Sx) {r : Int32 × Wd} {F : Nat} {w : Wd} {x1 : Int32}  (h : P_X11_isRinger F w x1 = some r) : Met l yX11_isRinger (wsg yX11_isRinger cX11_isRinger 2 (some .boolean)) rm_X11_isRinger (PC S w [rf S 88, .int x1]) (QCi S r) 0 0 (Aw S) :=
  met_i (by decide) rfl (Nat.le_of_ble_eq_true rfl) ⟨rfl, rfl⟩ (fun X hX hR => s_X11_isRinger  hX hR h)

-- MustNotStopModel.sign(I)I
abbrev rm_X11_sign : Room := { frames := 1, cells := 0, slots := 0, locals := 64 }
theorem nk_X11_sign : MNk yX11_sign RX11 1 := ⟨rfl, by decide, by decide, by decide +kernel⟩
def L_X11_sign_18 (F : Nat) (x1 : Int32) (k53 : Wd → Option (Int32 × Wd)) : Nat → Wd → Int32 → Option (Int32 × Wd)
  | 0, _, _ => none
  | n + 1, w, x4 => (if (4 : Int32) ≤ x4 then k53 w  else gd (inB ((gI w 88 14) + x4) 80) (lt (sI w 97 ((gI w 88 14) + x4).toNatClampNeg ((ishrI x1 (24 - (8 * x4))) &&& 255)) (fun w7 => lt (x4 + 1 : Int32) (fun x8 => L_X11_sign_18 F x1 k53 n w7 x8))))
set_option maxRecDepth 100000 in
set_option maxHeartbeats 4000000 in
theorem sL_X11_sign_18 {X : Cx} {S : Sx} {r : Int32 × Wd} {F : Nat} {x1 : Int32} {k53 : Wd → Option (Int32 × Wd)} (hX : Ok X S cX11_sign RX11 3 rm_X11_sign) (hR : HRt X S cX11_sign .int r)  (hk53 : ∀ (w : Wd), k53 w = some r → V X S w 53 [(0, rf S 88)] []) : ∀ (n : Nat) (w : Wd) (x4 : Int32) , L_X11_sign_18 F x1 k53 n w x4 = some r → V X S w 18 [(0, rf S 88), (1, .int x1), (2, .int x4)] [] := by
  intro n
  induction n with
  | zero =>
    intro w x4  hP
    exact nn hP
  | succ n ih =>
    intro w x4  hP
    rw [L_X11_sign_18] at hP
    refine V_iload_n hX dX11_sign_18 2 rfl ?_
    refine V_iconst (v := 4) hX dX11_sign_19 (by decide) ?_
    refine V_icmp_ge (tgt := 53) hX dX11_sign_20 (by decide) (fun hc5 => ?_) (fun hc5 => ?_)
    · replace hP := ite_t hc5 hP
      refine V_sub (lv' := [(0, rf S 88)]) [0] rfl ?_
      exact hk53 _   hP
    · replace hP := ite_f hc5 hP
      refine V_aload_n hX dX11_sign_23 0 rfl ?_
      refine V_getF (j := 97) hX fk_X11_35 tb_88 (fun _ _ _ => rfl) dX11_sign_24 ?_
      refine V_aload_n hX dX11_sign_27 0 rfl ?_
      refine V_getI hX fk_X11_120 tb_88 (fun _ _ _ => rfl) dX11_sign_28 ?_
      refine V_iload_n hX dX11_sign_31 2 rfl ?_
      refine V_iadd hX dX11_sign_32 ?_
      refine V_iload_n hX dX11_sign_33 1 rfl ?_
      refine V_bipush (v := 24) hX dX11_sign_34 (by decide) ?_
      refine V_bipush (v := 8) hX dX11_sign_36 (by decide) ?_
      refine V_iload_n hX dX11_sign_38 2 rfl ?_
      refine V_imul hX dX11_sign_39 ?_
      refine V_isub hX dX11_sign_40 ?_
      refine V_ishr hX dX11_sign_41 ?_
      refine V_sipush (v := 255) hX dX11_sign_42 (by decide) ?_
      refine V_iand hX dX11_sign_45 ?_
      obtain ⟨hi6, hP⟩ := gd_e hP
      refine V_iast hX tb_97 hi6 dX11_sign_46 (fun w7 ew7 => ?_)
      replace hP := lt_r ew7 hP
      obtain ⟨x8, ex8⟩ : ∃ y : Int32, y = x4 + 1 := ⟨_, rfl⟩
      replace hP := lt_r ex8 hP
      refine V_iinc (v := x8) (lv' := [(2, .int x8), (0, rf S 88), (1, .int x1)]) hX dX11_sign_47 (j := 2) rfl (by decide) (by rw [ex8]; rfl) rfl ?_
      refine V_goto (tgt := 18) hX dX11_sign_50 (by decide) ?_
      refine V_sub (lv' := [(0, rf S 88), (1, .int x1), (2, .int x8)]) [1, 2, 0] rfl ?_
      exact ih _ _  hP
def P_X11_sign (F : Nat) (w : Wd) (x1 : Int32) : Option (Int32 × Wd) := lt (sI w 88 0 0) (fun w2 => (if (gI w2 88 14) ≤ 76 then L_X11_sign_18 F x1 (fun w  => lt (sI w 88 14 ((gI w 88 14) + 4)) (fun w9 => some (gI w9 88 14, w9))) F w2 0 else some ((-1), w2)))
set_option maxRecDepth 100000 in
set_option maxHeartbeats 4000000 in
theorem s_X11_sign {X : Cx} {S : Sx} {r : Int32 × Wd} {F : Nat} {w : Wd} {x1 : Int32}  (hX : Ok X S cX11_sign RX11 3 rm_X11_sign) (hR : HRt X S cX11_sign .int r) (hP : P_X11_sign F w x1 = some r) : V X S w 0 [(0, rf S 88), (1, .int x1)] [] := by
  unfold P_X11_sign at hP
  refine V_aload_n hX dX11_sign_0 0 rfl ?_
  refine V_iconst (v := 0) hX dX11_sign_1 (by decide) ?_
  refine V_putI hX fw_X11_102 tb_88 (fun _ _ _ => ⟨Nat.le_of_ble_eq_true rfl, rfl⟩) dX11_sign_2 (fun w2 ew2 => ?_)
  replace hP := lt_r ew2 hP
  refine V_aload_n hX dX11_sign_5 0 rfl ?_
  refine V_getI hX fk_X11_120 tb_88 (fun _ _ _ => rfl) dX11_sign_6 ?_
  refine V_bipush (v := 76) hX dX11_sign_9 (by decide) ?_
  refine V_icmp_le (tgt := 16) hX dX11_sign_11 (by decide) (fun hc3 => ?_) (fun hc3 => ?_)
  · replace hP := ite_t hc3 hP
    refine V_iconst (v := 0) hX dX11_sign_16 (by decide) ?_
    refine V_istore_n (lv' := [(2, .int 0), (0, rf S 88), (1, .int x1)]) hX dX11_sign_17 (by decide) rfl ?_
    refine V_sub (lv' := [(0, rf S 88), (1, .int x1), (2, .int 0)]) [1, 2, 0] rfl ?_
    have k10 : ∀ (w : Wd)  , (lt (sI w 88 14 ((gI w 88 14) + 4)) (fun w9 => some (gI w9 88 14, w9))) = some r → V X S w 53 [(0, rf S 88)] [] := by
      intro w   hP
      refine V_aload_n hX dX11_sign_53 0 rfl ?_
      refine V_dup hX dX11_sign_54 rfl ?_
      refine V_getI hX fk_X11_120 tb_88 (fun _ _ _ => rfl) dX11_sign_55 ?_
      refine V_iconst (v := 4) hX dX11_sign_58 (by decide) ?_
      refine V_iadd hX dX11_sign_59 ?_
      refine V_putI hX fw_X11_120 tb_88 (fun _ _ _ => ⟨Nat.le_of_ble_eq_true rfl, rfl⟩) dX11_sign_60 (fun w9 ew9 => ?_)
      replace hP := lt_r ew9 hP
      refine V_aload_n hX dX11_sign_63 0 rfl ?_
      refine V_getI hX fk_X11_120 tb_88 (fun _ _ _ => rfl) dX11_sign_64 ?_
      exact hR _ _ _ _ (Option.some.inj hP) rfl dX11_sign_67
    exact sL_X11_sign_18 hX hR  k10 F _ _  hP
  · replace hP := ite_f hc3 hP
    refine V_iconst (v := (-1)) hX dX11_sign_14 (by decide) ?_
    exact hR _ _ _ _ (Option.some.inj hP) rfl dX11_sign_15
theorem c_X11_sign (l : Launch) (S : Sx) {r : Int32 × Wd} {F : Nat} {w : Wd} {x1 : Int32}  (h : P_X11_sign F w x1 = some r) : Met l yX11_sign (wsg yX11_sign cX11_sign 3 (some .int)) rm_X11_sign (PC S w [rf S 88, .int x1]) (QCi S r) 0 0 (Aw S) :=
  met_i (by decide) rfl (Nat.le_of_ble_eq_true rfl) ⟨rfl, rfl⟩ (fun X hX hR => s_X11_sign  hX hR h)

-- MustNotStopModel.end(I)Z
abbrev rm_X11_end : Room := { frames := 2, cells := 0, slots := 0, locals := 89 }
theorem nk_X11_end : MNk yX11_end RX11 1 := ⟨rfl, by decide, by decide, by decide +kernel⟩
def P_X11_end (F : Nat) (w : Wd) (x1 : Int32) : Option (Int32 × Wd) := lt (sI w 88 0 0) (fun w2 => bnd (P_X11_in F w2 (Int32.toInt64 x1) 0 (Int32.toInt64 (gI w2 88 14))) (fun x4 w3 => (if x4 = 0 then some (0, w3) else lt (sI w3 88 14 x1) (fun w6 => some (1, w6)))))
set_option maxRecDepth 100000 in
set_option maxHeartbeats 4000000 in
theorem s_X11_end {X : Cx} {S : Sx} {r : Int32 × Wd} {F : Nat} {w : Wd} {x1 : Int32}  (hX : Ok X S cX11_end RX11 2 rm_X11_end) (hR : HRt X S cX11_end .boolean r) (hP : P_X11_end F w x1 = some r) : V X S w 0 [(0, rf S 88), (1, .int x1)] [] := by
  unfold P_X11_end at hP
  refine V_aload_n hX dX11_end_0 0 rfl ?_
  refine V_iconst (v := 0) hX dX11_end_1 (by decide) ?_
  refine V_putI hX fw_X11_102 tb_88 (fun _ _ _ => ⟨Nat.le_of_ble_eq_true rfl, rfl⟩) dX11_end_2 (fun w2 ew2 => ?_)
  replace hP := lt_r ew2 hP
  refine V_iload_n hX dX11_end_5 1 rfl ?_
  refine V_i2l hX dX11_end_6 ?_
  refine V_lconst (v := 0) hX dX11_end_7 rfl ?_
  refine V_aload_n hX dX11_end_8 0 rfl ?_
  refine V_getI hX fk_X11_120 tb_88 (fun _ _ _ => rfl) dX11_end_9 ?_
  refine V_i2l hX dX11_end_12 ?_
  obtain ⟨x4, w3, hcw3, hP⟩ := bnd_e hP
  refine V_callSi (As := [.long (Int32.toInt64 x1), .long 0, .long (Int32.toInt64 (gI w2 88 14))]) (rest := []) hX mk_X11_116 nk_X11_in (fun l => c_X11_in l S  hcw3) ⟨rfl, rfl, Nat.le_of_ble_eq_true rfl, Nat.le_of_ble_eq_true rfl⟩ rfl rfl (Nat.le_of_ble_eq_true rfl) dX11_end_13 ?_
  refine V_if_ne (tgt := 21) hX dX11_end_16 (by decide) (fun hc5 => ?_) (fun hc5 => ?_)
  · replace hP := ite_f hc5 hP
    refine V_aload_n hX dX11_end_21 0 rfl ?_
    refine V_iload_n hX dX11_end_22 1 rfl ?_
    refine V_putI hX fw_X11_120 tb_88 (fun _ _ _ => ⟨Nat.le_of_ble_eq_true rfl, rfl⟩) dX11_end_23 (fun w6 ew6 => ?_)
    replace hP := lt_r ew6 hP
    refine V_iconst (v := 1) hX dX11_end_26 (by decide) ?_
    exact hR _ _ _ _ (Option.some.inj hP) rfl dX11_end_27
  · replace hP := ite_t hc5 hP
    refine V_iconst (v := 0) hX dX11_end_19 (by decide) ?_
    exact hR _ _ _ _ (Option.some.inj hP) rfl dX11_end_20
theorem c_X11_end (l : Launch) (S : Sx) {r : Int32 × Wd} {F : Nat} {w : Wd} {x1 : Int32}  (h : P_X11_end F w x1 = some r) : Met l yX11_end (wsg yX11_end cX11_end 2 (some .boolean)) rm_X11_end (PC S w [rf S 88, .int x1]) (QCi S r) 0 0 (Aw S) :=
  met_i (by decide) rfl (Nat.le_of_ble_eq_true rfl) ⟨rfl, rfl⟩ (fun X hX hR => s_X11_end  hX hR h)

-- MustNotStopModel.begins(I)I
abbrev rm_X11_begins : Room := { frames := 1, cells := 0, slots := 0, locals := 64 }
theorem nk_X11_begins : MNk yX11_begins RX11 1 := ⟨rfl, by decide, by decide, by decide +kernel⟩
def P_X11_begins (F : Nat) (w : Wd) (x1 : Int32) : Option (Int32 × Wd) := lt (gI w 88 14 : Int32) (fun x2 => lt (sI w 88 14 0) (fun w3 => lt (sI w3 88 15 0) (fun w4 => lt (sI w4 88 17 0) (fun w5 => lt (sI w5 88 16 (minI x2 x1)) (fun w6 => some (x2, w6))))))
set_option maxRecDepth 100000 in
set_option maxHeartbeats 4000000 in
theorem s_X11_begins {X : Cx} {S : Sx} {r : Int32 × Wd} {F : Nat} {w : Wd} {x1 : Int32}  (hX : Ok X S cX11_begins RX11 3 rm_X11_begins) (hR : HRt X S cX11_begins .int r) (hP : P_X11_begins F w x1 = some r) : V X S w 0 [(0, rf S 88), (1, .int x1)] [] := by
  unfold P_X11_begins at hP
  refine V_aload_n hX dX11_begins_0 0 rfl ?_
  refine V_getI hX fk_X11_120 tb_88 (fun _ _ _ => rfl) dX11_begins_1 ?_
  refine V_topi (fun x2 ex2 => ?_)
  replace hP := lt_r ex2 hP
  refine V_istore_n (lv' := [(2, .int x2), (0, rf S 88), (1, .int x1)]) hX dX11_begins_4 (by decide) rfl ?_
  refine V_aload_n hX dX11_begins_5 1 rfl ?_
  refine V_iconst (v := 0) hX dX11_begins_6 (by decide) ?_
  refine V_putI hX fw_X11_120 tb_88 (fun _ _ _ => ⟨Nat.le_of_ble_eq_true rfl, rfl⟩) dX11_begins_7 (fun w3 ew3 => ?_)
  replace hP := lt_r ew3 hP
  refine V_aload_n hX dX11_begins_10 1 rfl ?_
  refine V_iconst (v := 0) hX dX11_begins_11 (by decide) ?_
  refine V_putI hX fw_X11_123 tb_88 (fun _ _ _ => ⟨Nat.le_of_ble_eq_true rfl, rfl⟩) dX11_begins_12 (fun w4 ew4 => ?_)
  replace hP := lt_r ew4 hP
  refine V_aload_n hX dX11_begins_15 1 rfl ?_
  refine V_iconst (v := 0) hX dX11_begins_16 (by decide) ?_
  refine V_putI hX fw_X11_126 tb_88 (fun _ _ _ => ⟨Nat.le_of_ble_eq_true rfl, rfl⟩) dX11_begins_17 (fun w5 ew5 => ?_)
  replace hP := lt_r ew5 hP
  refine V_aload_n hX dX11_begins_20 1 rfl ?_
  refine V_iload_n hX dX11_begins_21 0 rfl ?_
  refine V_iload_n hX dX11_begins_22 2 rfl ?_
  refine V_min hX mk_X11_129 ⟨Nat.le_of_ble_eq_true rfl, Nat.le_of_ble_eq_true rfl⟩ dX11_begins_23 ?_
  refine V_putI hX fw_X11_135 tb_88 (fun _ _ _ => ⟨Nat.le_of_ble_eq_true rfl, rfl⟩) dX11_begins_26 (fun w6 ew6 => ?_)
  replace hP := lt_r ew6 hP
  refine V_iload_n hX dX11_begins_29 0 rfl ?_
  exact hR _ _ _ _ (Option.some.inj hP) rfl dX11_begins_30
theorem c_X11_begins (l : Launch) (S : Sx) {r : Int32 × Wd} {F : Nat} {w : Wd} {x1 : Int32}  (h : P_X11_begins F w x1 = some r) : Met l yX11_begins (wsg yX11_begins cX11_begins 3 (some .int)) rm_X11_begins (PC S w [rf S 88, .int x1]) (QCi S r) 0 0 (Aw S) :=
  met_i (by decide) rfl (Nat.le_of_ble_eq_true rfl) ⟨rfl, rfl⟩ (fun X hX hR => s_X11_begins  hX hR h)

-- MustNotStopModel.isNext(I)Z
abbrev rm_X11_isNext : Room := { frames := 2, cells := 0, slots := 0, locals := 84 }
theorem nk_X11_isNext : MNk yX11_isNext RX11 1 := ⟨rfl, by decide, by decide, by decide +kernel⟩
def K_X11_isNext_29 (F : Nat) (x1 : Int32)  (w : Wd) (x3 : Int32) : Option (Int32 × Wd) := bnd (P_X11_flag F w x3) (fun x5 w4 => lt (sI w4 88 15 ((gI w 88 15) + x5)) (fun w6 => gd (isZO x3) (some (x3, w6))))
set_option maxRecDepth 100000 in
set_option maxHeartbeats 4000000 in
theorem sK_X11_isNext_29 {X : Cx} {S : Sx} {r : Int32 × Wd} {F : Nat} {x1 : Int32}  {w : Wd} {x3 : Int32} (hX : Ok X S cX11_isNext RX11 3 rm_X11_isNext) (hR : HRt X S cX11_isNext .boolean r)    (hP : K_X11_isNext_29 F x1  w x3 = some r) : V X S w 29 [(0, rf S 88)] [.int x3] := by
  unfold K_X11_isNext_29 at hP
  refine V_istore_n (lv' := [(2, .int x3), (0, rf S 88)]) hX dX11_isNext_29 (by decide) rfl ?_
  refine V_aload_n hX dX11_isNext_30 1 rfl ?_
  refine V_dup hX dX11_isNext_31 rfl ?_
  refine V_getI hX fk_X11_123 tb_88 (fun _ _ _ => rfl) dX11_isNext_32 ?_
  refine V_iload_n hX dX11_isNext_35 0 rfl ?_
  obtain ⟨x5, w4, hcw4, hP⟩ := bnd_e hP
  refine V_callSi (As := [.int x3]) (rest := [.int (gI w 88 15), rf S 88]) hX mk_X11_138 nk_X11_flag (fun l => c_X11_flag l S  hcw4) ⟨rfl, rfl, Nat.le_of_ble_eq_true rfl, Nat.le_of_ble_eq_true rfl⟩ rfl rfl (Nat.le_of_ble_eq_true rfl) dX11_isNext_36 ?_
  refine V_iadd hX dX11_isNext_39 ?_
  refine V_putI hX fw_X11_123 tb_88 (fun _ _ _ => ⟨Nat.le_of_ble_eq_true rfl, rfl⟩) dX11_isNext_40 (fun w6 ew6 => ?_)
  replace hP := lt_r ew6 hP
  refine V_iload_n hX dX11_isNext_43 0 rfl ?_
  obtain ⟨hz7, hP⟩ := gd_e hP
  exact hR _ _ _ _ (Option.some.inj hP) (nar_z hz7) dX11_isNext_44
def K_X11_isNext_28 (F : Nat) (x1 : Int32)  (w : Wd)  : Option (Int32 × Wd) := K_X11_isNext_29 F x1  w 0
set_option maxRecDepth 100000 in
set_option maxHeartbeats 4000000 in
theorem sK_X11_isNext_28 {X : Cx} {S : Sx} {r : Int32 × Wd} {F : Nat} {x1 : Int32}  {w : Wd}  (hX : Ok X S cX11_isNext RX11 3 rm_X11_isNext) (hR : HRt X S cX11_isNext .boolean r)    (hP : K_X11_isNext_28 F x1  w  = some r) : V X S w 28 [(0, rf S 88)] [] := by
  unfold K_X11_isNext_28 at hP
  refine V_iconst (v := 0) hX dX11_isNext_28 (by decide) ?_
  exact sK_X11_isNext_29 hX hR    hP
def P_X11_isNext (F : Nat) (w : Wd) (x1 : Int32) : Option (Int32 × Wd) := (if (gI w 88 16) ≤ (gI w 88 15) then K_X11_isNext_28 F x1  w  else gd (inB (gI w 88 15) 80) (lt (if (gI w 97 (gI w 88 15).toNatClampNeg) = x1 then 1 else 0 : Int32) (fun x10 => bnd (P_X11_flag F w x10) (fun x12 w11 => lt (sI w11 88 15 ((gI w 88 15) + x12)) (fun w13 => gd (isZO x10) (some (x10, w13)))))))
set_option maxRecDepth 100000 in
set_option maxHeartbeats 4000000 in
theorem s_X11_isNext {X : Cx} {S : Sx} {r : Int32 × Wd} {F : Nat} {w : Wd} {x1 : Int32}  (hX : Ok X S cX11_isNext RX11 3 rm_X11_isNext) (hR : HRt X S cX11_isNext .boolean r) (hP : P_X11_isNext F w x1 = some r) : V X S w 0 [(0, rf S 88), (1, .int x1)] [] := by
  unfold P_X11_isNext at hP
  refine V_aload_n hX dX11_isNext_0 0 rfl ?_
  refine V_getI hX fk_X11_123 tb_88 (fun _ _ _ => rfl) dX11_isNext_1 ?_
  refine V_aload_n hX dX11_isNext_4 0 rfl ?_
  refine V_getI hX fk_X11_135 tb_88 (fun _ _ _ => rfl) dX11_isNext_5 ?_
  refine V_icmp_ge (tgt := 28) hX dX11_isNext_8 (by decide) (fun hc2 => ?_) (fun hc2 => ?_)
  · replace hP := ite_t hc2 hP
    refine V_sub (lv' := [(0, rf S 88)]) [0] rfl ?_
    exact sK_X11_isNext_28 hX hR    hP
  · replace hP := ite_f hc2 hP
    refine V_aload_n hX dX11_isNext_11 0 rfl ?_
    refine V_getF (j := 97) hX fk_X11_35 tb_88 (fun _ _ _ => rfl) dX11_isNext_12 ?_
    refine V_aload_n hX dX11_isNext_15 0 rfl ?_
    refine V_getI hX fk_X11_123 tb_88 (fun _ _ _ => rfl) dX11_isNext_16 ?_
    obtain ⟨hi8, hP⟩ := gd_e hP
    refine V_iald hX tb_97 hi8 dX11_isNext_19 ?_
    refine V_iload_n hX dX11_isNext_20 1 rfl ?_
    have k15 : V X S w 29 [(0, rf S 88), (1, .int x1)] [.int (if (gI w 97 (gI w 88 15).toNatClampNeg) = x1 then 1 else 0)] := by
      refine V_topi (fun x10 ex10 => ?_)
      replace hP := lt_r ex10 hP
      refine V_istore_n (lv' := [(2, .int x10), (0, rf S 88), (1, .int x1)]) hX dX11_isNext_29 (by decide) rfl ?_
      refine V_aload_n hX dX11_isNext_30 1 rfl ?_
      refine V_dup hX dX11_isNext_31 rfl ?_
      refine V_getI hX fk_X11_123 tb_88 (fun _ _ _ => rfl) dX11_isNext_32 ?_
      refine V_iload_n hX dX11_isNext_35 0 rfl ?_
      obtain ⟨x12, w11, hcw11, hP⟩ := bnd_e hP
      refine V_callSi (As := [.int x10]) (rest := [.int (gI w 88 15), rf S 88]) hX mk_X11_138 nk_X11_flag (fun l => c_X11_flag l S  hcw11) ⟨rfl, rfl, Nat.le_of_ble_eq_true rfl, Nat.le_of_ble_eq_true rfl⟩ rfl rfl (Nat.le_of_ble_eq_true rfl) dX11_isNext_36 ?_
      refine V_iadd hX dX11_isNext_39 ?_
      refine V_putI hX fw_X11_123 tb_88 (fun _ _ _ => ⟨Nat.le_of_ble_eq_true rfl, rfl⟩) dX11_isNext_40 (fun w13 ew13 => ?_)
      replace hP := lt_r ew13 hP
      refine V_iload_n hX dX11_isNext_43 0 rfl ?_
      obtain ⟨hz14, hP⟩ := gd_e hP
      exact hR _ _ _ _ (Option.some.inj hP) (nar_z hz14) dX11_isNext_44
    refine V_icmp_ne (tgt := 28) hX dX11_isNext_21 (by decide) (fun hc9 => ?_) (fun hc9 => ?_)
    · refine V_iconst (v := 0) hX dX11_isNext_28 (by decide) ?_
      refine V_selF (c := (gI w 97 (gI w 88 15).toNatClampNeg) = x1) (a := 1) hc9 ?_
      exact k15
    · refine V_iconst (v := 1) hX dX11_isNext_24 (by decide) ?_
      refine V_goto (tgt := 29) hX dX11_isNext_25 (by decide) ?_
      refine V_selT (c := (gI w 97 (gI w 88 15).toNatClampNeg) = x1) (b := 0) hc9 ?_
      exact k15
theorem c_X11_isNext (l : Launch) (S : Sx) {r : Int32 × Wd} {F : Nat} {w : Wd} {x1 : Int32}  (h : P_X11_isNext F w x1 = some r) : Met l yX11_isNext (wsg yX11_isNext cX11_isNext 3 (some .boolean)) rm_X11_isNext (PC S w [rf S 88, .int x1]) (QCi S r) 0 0 (Aw S) :=
  met_i (by decide) rfl (Nat.le_of_ble_eq_true rfl) ⟨rfl, rfl⟩ (fun X hX hR => s_X11_isNext  hX hR h)

-- MustNotStopModel.isDigit()Z
abbrev rm_X11_isDigit : Room := { frames := 2, cells := 0, slots := 0, locals := 89 }
theorem nk_X11_isDigit : MNk yX11_isDigit RX11 0 := ⟨rfl, by decide, by decide, by decide +kernel⟩
def P_X11_isDigit (F : Nat) (w : Wd)  : Option (Int32 × Wd) := (if (gI w 88 16) ≤ (gI w 88 15) then some (0, w) else gd (inB (gI w 88 15) 80) (bnd (P_X11_in F w (Int32.toInt64 (gI w 97 (gI w 88 15).toNatClampNeg)) 48 57) (fun x4 w3 => lt (if x4 = 0 then 0 else 1 : Int32) (fun x6 => gd (isZO x6) (some (x6, w3))))))
set_option maxRecDepth 100000 in
set_option maxHeartbeats 4000000 in
theorem s_X11_isDigit {X : Cx} {S : Sx} {r : Int32 × Wd} {F : Nat} {w : Wd}   (hX : Ok X S cX11_isDigit RX11 1 rm_X11_isDigit) (hR : HRt X S cX11_isDigit .boolean r) (hP : P_X11_isDigit F w  = some r) : V X S w 0 [(0, rf S 88)] [] := by
  unfold P_X11_isDigit at hP
  refine V_aload_n hX dX11_isDigit_0 0 rfl ?_
  refine V_getI hX fk_X11_123 tb_88 (fun _ _ _ => rfl) dX11_isDigit_1 ?_
  refine V_aload_n hX dX11_isDigit_4 0 rfl ?_
  refine V_getI hX fk_X11_135 tb_88 (fun _ _ _ => rfl) dX11_isDigit_5 ?_
  refine V_icmp_ge (tgt := 37) hX dX11_isDigit_8 (by decide) (fun hc1 => ?_) (fun hc1 => ?_)
  · replace hP := ite_t hc1 hP
    refine V_iconst (v := 0) hX dX11_isDigit_37 (by decide) ?_
    exact hR _ _ _ _ (Option.some.inj hP) rfl dX11_isDigit_38
  · replace hP := ite_f hc1 hP
    refine V_aload_n hX dX11_isDigit_11 0 rfl ?_
    refine V_getF (j := 97) hX fk_X11_35 tb_88 (fun _ _ _ => rfl) dX11_isDigit_12 ?_
    refine V_aload_n hX dX11_isDigit_15 0 rfl ?_
    refine V_getI hX fk_X11_123 tb_88 (fun _ _ _ => rfl) dX11_isDigit_16 ?_
    obtain ⟨hi2, hP⟩ := gd_e hP
    refine V_iald hX tb_97 hi2 dX11_isDigit_19 ?_
    refine V_i2l hX dX11_isDigit_20 ?_
    refine V_ldc2 (v := 48) hX dX11_isDigit_21 cn_X11_142 ?_
    refine V_ldc2 (v := 57) hX dX11_isDigit_24 cn_X11_144 ?_
    obtain ⟨x4, w3, hcw3, hP⟩ := bnd_e hP
    refine V_callSi (As := [.long (Int32.toInt64 (gI w 97 (gI w 88 15).toNatClampNeg)), .long 48, .long 57]) (rest := []) hX mk_X11_116 nk_X11_in (fun l => c_X11_in l S  hcw3) ⟨rfl, rfl, Nat.le_of_ble_eq_true rfl, Nat.le_of_ble_eq_true rfl⟩ rfl rfl (Nat.le_of_ble_eq_true rfl) dX11_isDigit_27 ?_
    have k8 : V X S w3 38 [(0, rf S 88)] [.int (if x4 = 0 then 0 else 1)] := by
      refine V_topi (fun x6 ex6 => ?_)
      replace hP := lt_r ex6 hP
      obtain ⟨hz7, hP⟩ := gd_e hP
      exact hR _ _ _ _ (Option.some.inj hP) (nar_z hz7) dX11_isDigit_38
    refine V_if_eq (tgt := 37) hX dX11_isDigit_30 (by decide) (fun hc5 => ?_) (fun hc5 => ?_)
    · refine V_iconst (v := 0) hX dX11_isDigit_37 (by decide) ?_
      refine V_selT (c := x4 = 0) (b := 1) hc5 ?_
      exact k8
    · refine V_iconst (v := 1) hX dX11_isDigit_33 (by decide) ?_
      refine V_goto (tgt := 38) hX dX11_isDigit_34 (by decide) ?_
      refine V_selF (c := x4 = 0) (a := 0) hc5 ?_
      exact k8
theorem c_X11_isDigit (l : Launch) (S : Sx) {r : Int32 × Wd} {F : Nat} {w : Wd}   (h : P_X11_isDigit F w  = some r) : Met l yX11_isDigit (wsg yX11_isDigit cX11_isDigit 1 (some .boolean)) rm_X11_isDigit (PC S w [rf S 88]) (QCi S r) 0 0 (Aw S) :=
  met_i (by decide) rfl (Nat.le_of_ble_eq_true rfl) ⟨rfl, rfl⟩ (fun X hX hR => s_X11_isDigit  hX hR h)

-- jdk/internal/util/Preconditions.checkIndex(IILjava/util/function/BiFunction;)I
abbrev rm_J3_checkIndex_8e157 : Room := { frames := 1, cells := 0, slots := 0, locals := 64 }
theorem nk_J3_checkIndex_8e157 : MNk yJ3_checkIndex_8e157 RJ3 3 := ⟨rfl, by decide, by decide, by decide +kernel⟩
def P_J3_checkIndex_8e157 (F : Nat) (w : Wd) (x1 : Int32) (x2 : Int32) : Option (Int32 × Wd) := (if x1 < 0 then none else (if x1 < x2 then some (x1, w) else none))
set_option maxRecDepth 100000 in
set_option maxHeartbeats 4000000 in
theorem s_J3_checkIndex_8e157 {X : Cx} {S : Sx} {r : Int32 × Wd} {F : Nat} {w : Wd} {x1 : Int32} {x2 : Int32}  (hX : Ok X S cJ3_checkIndex_8e157 RJ3 3 rm_J3_checkIndex_8e157) (hR : HRt X S cJ3_checkIndex_8e157 .int r) (hP : P_J3_checkIndex_8e157 F w x1 x2 = some r) : V X S w 0 [(0, .int x1), (1, .int x2), (2, fmV S)] [] := by
  unfold P_J3_checkIndex_8e157 at hP
  refine V_iload_n hX dJ3_checkIndex_8e157_0 0 rfl ?_
  refine V_if_lt (tgt := 9) hX dJ3_checkIndex_8e157_1 (by decide) (fun hc3 => ?_) (fun hc3 => ?_)
  · replace hP := ite_t hc3 hP
    exact nn hP
  · replace hP := ite_f hc3 hP
    refine V_iload_n hX dJ3_checkIndex_8e157_4 0 rfl ?_
    refine V_iload_n hX dJ3_checkIndex_8e157_5 1 rfl ?_
    refine V_icmp_lt (tgt := 16) hX dJ3_checkIndex_8e157_6 (by decide) (fun hc4 => ?_) (fun hc4 => ?_)
    · replace hP := ite_t hc4 hP
      refine V_iload_n hX dJ3_checkIndex_8e157_16 0 rfl ?_
      exact hR _ _ _ _ (Option.some.inj hP) rfl dJ3_checkIndex_8e157_17
    · replace hP := ite_f hc4 hP
      exact nn hP
theorem c_J3_checkIndex_8e157 (l : Launch) (S : Sx) {r : Int32 × Wd} {F : Nat} {w : Wd} {x1 : Int32} {x2 : Int32}  (h : P_J3_checkIndex_8e157 F w x1 x2 = some r) : Met l yJ3_checkIndex_8e157 (wsg yJ3_checkIndex_8e157 cJ3_checkIndex_8e157 3 (some .int)) rm_J3_checkIndex_8e157 (PC S w [.int x1, .int x2, fmV S]) (QCi S r) 0 0 (Aw S) :=
  met_i (by decide) rfl (by rcases fm_cases S with h | ⟨a, h⟩ <;> rw [h] <;> exact Nat.le_of_ble_eq_true rfl) ⟨rfl, rfl⟩ (fun X hX hR => s_J3_checkIndex_8e157  hX hR h)

-- java/lang/String.checkIndex(II)V
abbrev rm_J0_checkIndex_df160 : Room := { frames := 2, cells := 0, slots := 0, locals := 86 }
theorem nk_J0_checkIndex_df160 : MNk yJ0_checkIndex_df160 RJ0 2 := ⟨rfl, by decide, by decide, by decide +kernel⟩
def P_J0_checkIndex_df160 (F : Nat) (w : Wd) (x1 : Int32) (x2 : Int32) : Option (Wd) := bnd (P_J3_checkIndex_8e157 F w x1 x2) (fun x4 w3 => some w3)
set_option maxRecDepth 100000 in
set_option maxHeartbeats 4000000 in
theorem s_J0_checkIndex_df160 {X : Cx} {S : Sx} {r : Wd} {F : Nat} {w : Wd} {x1 : Int32} {x2 : Int32}  (hX : Ok X S cJ0_checkIndex_df160 RJ0 2 rm_J0_checkIndex_df160) (hR : HRv X S cJ0_checkIndex_df160 r) (hP : P_J0_checkIndex_df160 F w x1 x2 = some r) : V X S w 0 [(0, .int x1), (1, .int x2)] [] := by
  unfold P_J0_checkIndex_df160 at hP
  refine V_iload_n hX dJ0_checkIndex_df160_0 0 rfl ?_
  refine V_iload_n hX dJ0_checkIndex_df160_1 1 rfl ?_
  refine V_getsF hX dJ0_checkIndex_df160_2 ?_
  obtain ⟨x4, w3, hcw3, hP⟩ := bnd_e hP
  refine V_callSi (As := [.int x1, .int x2, fmV S]) (rest := []) hX mk_J0_1059 nk_J3_checkIndex_8e157 (fun l => c_J3_checkIndex_8e157 l S  hcw3) ⟨rfl, rfl, Nat.le_of_ble_eq_true rfl, Nat.le_of_ble_eq_true rfl⟩ rfl rfl (Nat.le_of_ble_eq_true rfl) dJ0_checkIndex_df160_5 ?_
  refine V_pop hX dJ0_checkIndex_df160_8 rfl ?_
  exact hR _ _ _ (Option.some.inj hP) dJ0_checkIndex_df160_9
theorem c_J0_checkIndex_df160 (l : Launch) (S : Sx) {r : Wd} {F : Nat} {w : Wd} {x1 : Int32} {x2 : Int32}  (h : P_J0_checkIndex_df160 F w x1 x2 = some r) : Met l yJ0_checkIndex_df160 (wsg yJ0_checkIndex_df160 cJ0_checkIndex_df160 2 none) rm_J0_checkIndex_df160 (PC S w [.int x1, .int x2]) (QCv S r) 0 0 (Aw S) :=
  met_v (by decide) rfl (Nat.le_of_ble_eq_true rfl) ⟨rfl, rfl⟩ (fun X hX hR => s_J0_checkIndex_df160  hX hR h)

-- java/lang/StringLatin1.charAt([BI)C
abbrev rm_J1_charAt_3b067 : Room := { frames := 3, cells := 0, slots := 0, locals := 107 }
theorem nk_J1_charAt_3b067 : MNk yJ1_charAt_3b067 RJ1 2 := ⟨rfl, by decide, by decide, by decide +kernel⟩
def P_J1_charAt_3b067 (F : Nat) (w : Wd) (a1 : Nat) (x2 : Int32) : Option (Int32 × Wd) := bnv (P_J0_checkIndex_df160 F w x2 (nI (strL a1))) (fun w3 => gd (inB x2 (strL a1)) (gd (isChr (i2cI ((strB a1 x2.toNatClampNeg) &&& 255))) (some (i2cI ((strB a1 x2.toNatClampNeg) &&& 255), w3))))
set_option maxRecDepth 100000 in
set_option maxHeartbeats 4000000 in
theorem s_J1_charAt_3b067 {X : Cx} {S : Sx} {r : Int32 × Wd} {F : Nat} {w : Wd} {a1 : Nat} {x2 : Int32} (ha1 : isStr a1 = true) (hX : Ok X S cJ1_charAt_3b067 RJ1 2 rm_J1_charAt_3b067) (hR : HRt X S cJ1_charAt_3b067 .char r) (hP : P_J1_charAt_3b067 F w a1 x2 = some r) : V X S w 0 [(0, .ref (adV S a1)), (1, .int x2)] [] := by
  unfold P_J1_charAt_3b067 at hP
  refine V_iload_n hX dJ1_charAt_3b067_0 1 rfl ?_
  refine V_aload_n hX dJ1_charAt_3b067_1 0 rfl ?_
  refine V_strLen hX ha1 dJ1_charAt_3b067_2 ?_
  obtain ⟨w3, hcw3, hP⟩ := bnv_e hP
  refine V_callSv (As := [.int x2, .int (nI (strL a1))]) (rest := []) hX mk_J1_9 nk_J0_checkIndex_df160 (fun l => c_J0_checkIndex_df160 l S  hcw3) ⟨rfl, rfl, Nat.le_of_ble_eq_true rfl, Nat.le_of_ble_eq_true rfl⟩ rfl rfl (Nat.le_of_ble_eq_true rfl) dJ1_charAt_3b067_3 ?_
  refine V_aload_n hX dJ1_charAt_3b067_6 0 rfl ?_
  refine V_iload_n hX dJ1_charAt_3b067_7 1 rfl ?_
  obtain ⟨hi4, hP⟩ := gd_e hP
  refine V_strByte hX ha1 hi4 dJ1_charAt_3b067_8 ?_
  refine V_sipush (v := 255) hX dJ1_charAt_3b067_9 (by decide) ?_
  refine V_iand hX dJ1_charAt_3b067_12 ?_
  refine V_i2c hX dJ1_charAt_3b067_13 ?_
  obtain ⟨hz5, hP⟩ := gd_e hP
  exact hR _ _ _ _ (Option.some.inj hP) (nar_c hz5) dJ1_charAt_3b067_14
theorem c_J1_charAt_3b067 (l : Launch) (S : Sx) {r : Int32 × Wd} {F : Nat} {w : Wd} {a1 : Nat} {x2 : Int32} (ha1 : isStr a1 = true) (h : P_J1_charAt_3b067 F w a1 x2 = some r) : Met l yJ1_charAt_3b067 (wsg yJ1_charAt_3b067 cJ1_charAt_3b067 2 (some .char)) rm_J1_charAt_3b067 (PC S w [.ref (adV S a1), .int x2]) (QCi S r) 0 0 (Aw S) :=
  met_i (by decide) rfl (Nat.le_of_ble_eq_true rfl) ⟨rfl, rfl⟩ (fun X hX hR => s_J1_charAt_3b067 ha1 hX hR h)

-- java/lang/String.charAt(I)C
abbrev rm_J0_charAt_5068e : Room := { frames := 4, cells := 0, slots := 0, locals := 128 }
theorem nk_J0_charAt_5068e : MNk yJ0_charAt_5068e RJ0 1 := ⟨rfl, by decide, by decide, by decide +kernel⟩
def P_J0_charAt_5068e (F : Nat) (w : Wd) (a1 : Nat) (x2 : Int32) : Option (Int32 × Wd) := bnd (P_J0_isLatin1_aae02 F w a1) (fun x4 w3 => (if x4 = 0 then none else bnd (P_J1_charAt_3b067 F w3 a1 x2) (fun x9 w8 => gd (isChr x9) (some (x9, w8)))))
set_option maxRecDepth 100000 in
set_option maxHeartbeats 4000000 in
theorem s_J0_charAt_5068e {X : Cx} {S : Sx} {r : Int32 × Wd} {F : Nat} {w : Wd} {a1 : Nat} {x2 : Int32} (ha1 : isStr a1 = true) (hX : Ok X S cJ0_charAt_5068e RJ0 2 rm_J0_charAt_5068e) (hR : HRt X S cJ0_charAt_5068e .char r) (hP : P_J0_charAt_5068e F w a1 x2 = some r) : V X S w 0 [(0, .ref (adK S a1)), (1, .int x2)] [] := by
  unfold P_J0_charAt_5068e at hP
  refine V_aload_n hX dJ0_charAt_5068e_0 0 rfl ?_
  obtain ⟨x4, w3, hcw3, hP⟩ := bnd_e hP
  refine V_callTi (As := []) (rest := []) hX mk_J0_492 nk_J0_isLatin1_aae02 (fun l => c_J0_isLatin1_aae02 l S ha1 hcw3) ha1 ⟨rfl, rfl, Nat.le_of_ble_eq_true rfl, Nat.le_of_ble_eq_true rfl⟩ rfl rfl (Nat.le_of_ble_eq_true rfl) dJ0_charAt_5068e_1 ?_
  refine V_if_eq (tgt := 16) hX dJ0_charAt_5068e_4 (by decide) (fun hc5 => ?_) (fun hc5 => ?_)
  · replace hP := ite_t hc5 hP
    exact nn hP
  · replace hP := ite_f hc5 hP
    refine V_aload_n hX dJ0_charAt_5068e_7 0 rfl ?_
    refine V_strVal hX ha1 dJ0_charAt_5068e_8 ?_
    refine V_iload_n hX dJ0_charAt_5068e_11 1 rfl ?_
    obtain ⟨x9, w8, hcw8, hP⟩ := bnd_e hP
    refine V_callSi (As := [.ref (adV S a1), .int x2]) (rest := []) hX mk_J0_495 nk_J1_charAt_3b067 (fun l => c_J1_charAt_3b067 l S ha1 hcw8) ⟨rfl, rfl, Nat.le_of_ble_eq_true rfl, Nat.le_of_ble_eq_true rfl⟩ rfl rfl (Nat.le_of_ble_eq_true rfl) dJ0_charAt_5068e_12 ?_
    obtain ⟨hz10, hP⟩ := gd_e hP
    exact hR _ _ _ _ (Option.some.inj hP) (nar_c hz10) dJ0_charAt_5068e_15
theorem c_J0_charAt_5068e (l : Launch) (S : Sx) {r : Int32 × Wd} {F : Nat} {w : Wd} {a1 : Nat} {x2 : Int32} (ha1 : isStr a1 = true) (h : P_J0_charAt_5068e F w a1 x2 = some r) : Met l yJ0_charAt_5068e (wsg yJ0_charAt_5068e cJ0_charAt_5068e 2 (some .char)) rm_J0_charAt_5068e (PC S w [.ref (adK S a1), .int x2]) (QCi S r) 0 0 (Aw S) :=
  met_i (by decide) rfl (Nat.le_of_ble_eq_true rfl) ⟨rfl, rfl⟩ (fun X hX hR => s_J0_charAt_5068e ha1 hX hR h)

-- MustNotStopModel.among(Ljava/lang/String;)I
abbrev rm_X11_among : Room := { frames := 5, cells := 0, slots := 0, locals := 149 }
theorem nk_X11_among : MNk yX11_among RX11 1 := ⟨rfl, by decide, by decide, by decide +kernel⟩
def L_X11_among_2 (F : Nat) (a1 : Nat) (k46 : Wd → Option (Int32 × Wd)) : Nat → Wd → Int32 → Option (Int32 × Wd)
  | 0, _, _ => none
  | n + 1, w, x2 => bnd (P_J0_length_8abf5 F w a1) (fun x4 w3 => (if x4 ≤ x2 then k46 w3  else (if (gI w3 88 16) ≤ (gI w3 88 15) then k46 w3  else bnd (P_J0_charAt_5068e F w3 a1 x2) (fun x8 w7 => gd (inB (gI w7 88 15) 80) ((if x8 = (gI w7 97 (gI w7 88 15).toNatClampNeg) then some (x2, w7) else lt (x2 + 1 : Int32) (fun x11 => L_X11_among_2 F a1 k46 n w7 x11)))))))
set_option maxRecDepth 100000 in
set_option maxHeartbeats 4000000 in
theorem sL_X11_among_2 {X : Cx} {S : Sx} {r : Int32 × Wd} {F : Nat} {a1 : Nat} {k46 : Wd → Option (Int32 × Wd)} (hX : Ok X S cX11_among RX11 3 rm_X11_among) (hR : HRt X S cX11_among .int r) (ha1 : isStr a1 = true) (hk46 : ∀ (w : Wd), k46 w = some r → V X S w 46 [] []) : ∀ (n : Nat) (w : Wd) (x2 : Int32) , L_X11_among_2 F a1 k46 n w x2 = some r → V X S w 2 [(0, rf S 88), (1, .ref (adK S a1)), (2, .int x2)] [] := by
  intro n
  induction n with
  | zero =>
    intro w x2  hP
    exact nn hP
  | succ n ih =>
    intro w x2  hP
    rw [L_X11_among_2] at hP
    refine V_iload_n hX dX11_among_2 2 rfl ?_
    refine V_aload_n hX dX11_among_3 1 rfl ?_
    obtain ⟨x4, w3, hcw3, hP⟩ := bnd_e hP
    refine V_callTi (As := []) (rest := [.int x2]) hX mk_X11_146 nk_J0_length_8abf5 (fun l => c_J0_length_8abf5 l S ha1 hcw3) ha1 ⟨rfl, rfl, Nat.le_of_ble_eq_true rfl, Nat.le_of_ble_eq_true rfl⟩ rfl rfl (Nat.le_of_ble_eq_true rfl) dX11_among_4 ?_
    refine V_icmp_ge (tgt := 46) hX dX11_among_7 (by decide) (fun hc5 => ?_) (fun hc5 => ?_)
    · replace hP := ite_t hc5 hP
      refine V_sub (lv' := []) [] rfl ?_
      exact hk46 _   hP
    · replace hP := ite_f hc5 hP
      refine V_aload_n hX dX11_among_10 0 rfl ?_
      refine V_getI hX fk_X11_123 tb_88 (fun _ _ _ => rfl) dX11_among_11 ?_
      refine V_aload_n hX dX11_among_14 0 rfl ?_
      refine V_getI hX fk_X11_135 tb_88 (fun _ _ _ => rfl) dX11_among_15 ?_
      refine V_icmp_ge (tgt := 46) hX dX11_among_18 (by decide) (fun hc6 => ?_) (fun hc6 => ?_)
      · replace hP := ite_t hc6 hP
        refine V_sub (lv' := []) [] rfl ?_
        exact hk46 _   hP
      · replace hP := ite_f hc6 hP
        refine V_aload_n hX dX11_among_21 1 rfl ?_
        refine V_iload_n hX dX11_among_22 2 rfl ?_
        obtain ⟨x8, w7, hcw7, hP⟩ := bnd_e hP
        refine V_callTi (As := [.int x2]) (rest := []) hX mk_X11_152 nk_J0_charAt_5068e (fun l => c_J0_charAt_5068e l S ha1 hcw7) ha1 ⟨rfl, rfl, Nat.le_of_ble_eq_true rfl, Nat.le_of_ble_eq_true rfl⟩ rfl rfl (Nat.le_of_ble_eq_true rfl) dX11_among_23 ?_
        refine V_aload_n hX dX11_among_26 0 rfl ?_
        refine V_getF (j := 97) hX fk_X11_35 tb_88 (fun _ _ _ => rfl) dX11_among_27 ?_
        refine V_aload_n hX dX11_among_30 0 rfl ?_
        refine V_getI hX fk_X11_123 tb_88 (fun _ _ _ => rfl) dX11_among_31 ?_
        obtain ⟨hi9, hP⟩ := gd_e hP
        refine V_iald hX tb_97 hi9 dX11_among_34 ?_
        refine V_icmp_ne (tgt := 40) hX dX11_among_35 (by decide) (fun hc10 => ?_) (fun hc10 => ?_)
        · replace hP := ite_f hc10 hP
          obtain ⟨x11, ex11⟩ : ∃ y : Int32, y = x2 + 1 := ⟨_, rfl⟩
          replace hP := lt_r ex11 hP
          refine V_iinc (v := x11) (lv' := [(2, .int x11), (0, rf S 88), (1, .ref (adK S a1))]) hX dX11_among_40 (j := 2) rfl (by decide) (by rw [ex11]; rfl) rfl ?_
          refine V_goto (tgt := 2) hX dX11_among_43 (by decide) ?_
          refine V_sub (lv' := [(0, rf S 88), (1, .ref (adK S a1)), (2, .int x11)]) [1, 2, 0] rfl ?_
          exact ih _ _  hP
        · replace hP := ite_t hc10 hP
          refine V_iload_n hX dX11_among_38 2 rfl ?_
          exact hR _ _ _ _ (Option.some.inj hP) rfl dX11_among_39
def P_X11_among (F : Nat) (w : Wd) (a1 : Nat) : Option (Int32 × Wd) := L_X11_among_2 F a1 (fun w  => some ((-1), w)) F w 0
set_option maxRecDepth 100000 in
set_option maxHeartbeats 4000000 in
theorem s_X11_among {X : Cx} {S : Sx} {r : Int32 × Wd} {F : Nat} {w : Wd} {a1 : Nat} (ha1 : isStr a1 = true) (hX : Ok X S cX11_among RX11 3 rm_X11_among) (hR : HRt X S cX11_among .int r) (hP : P_X11_among F w a1 = some r) : V X S w 0 [(0, rf S 88), (1, .ref (adK S a1))] [] := by
  unfold P_X11_among at hP
  refine V_iconst (v := 0) hX dX11_among_0 (by decide) ?_
  refine V_istore_n (lv' := [(2, .int 0), (0, rf S 88), (1, .ref (adK S a1))]) hX dX11_among_1 (by decide) rfl ?_
  refine V_sub (lv' := [(0, rf S 88), (1, .ref (adK S a1)), (2, .int 0)]) [1, 2, 0] rfl ?_
  have k12 : ∀ (w : Wd)  , (some ((-1), w)) = some r → V X S w 46 [] [] := by
    intro w   hP
    refine V_iconst (v := (-1)) hX dX11_among_46 (by decide) ?_
    exact hR _ _ _ _ (Option.some.inj hP) rfl dX11_among_47
  exact sL_X11_among_2 hX hR ha1 k12 F _ _  hP
theorem c_X11_among (l : Launch) (S : Sx) {r : Int32 × Wd} {F : Nat} {w : Wd} {a1 : Nat} (ha1 : isStr a1 = true) (h : P_X11_among F w a1 = some r) : Met l yX11_among (wsg yX11_among cX11_among 3 (some .int)) rm_X11_among (PC S w [rf S 88, .ref (adK S a1)]) (QCi S r) 0 0 (Aw S) :=
  met_i (by decide) rfl (Nat.le_of_ble_eq_true rfl) ⟨rfl, rfl⟩ (fun X hX hR => s_X11_among ha1 hX hR h)

-- MustNotStopModel.takesOf(Ljava/lang/String;)I
abbrev rm_X11_takesOf : Room := { frames := 6, cells := 0, slots := 0, locals := 171 }
theorem nk_X11_takesOf : MNk yX11_takesOf RX11 1 := ⟨rfl, by decide, by decide, by decide +kernel⟩
def P_X11_takesOf (F : Nat) (w : Wd) (a1 : Nat) : Option (Int32 × Wd) := bnd (P_X11_among F w a1) (fun x3 w2 => lt (if x3 < 0 then 0 else 1 : Int32) (fun x5 => bnd (P_X11_flag F w2 x5) (fun x7 w6 => lt (sI w6 88 15 ((gI w2 88 15) + x7)) (fun w8 => some (x3, w8)))))
set_option maxRecDepth 100000 in
set_option maxHeartbeats 4000000 in
theorem s_X11_takesOf {X : Cx} {S : Sx} {r : Int32 × Wd} {F : Nat} {w : Wd} {a1 : Nat} (ha1 : isStr a1 = true) (hX : Ok X S cX11_takesOf RX11 3 rm_X11_takesOf) (hR : HRt X S cX11_takesOf .int r) (hP : P_X11_takesOf F w a1 = some r) : V X S w 0 [(0, rf S 88), (1, .ref (adK S a1))] [] := by
  unfold P_X11_takesOf at hP
  refine V_aload_n hX dX11_takesOf_0 0 rfl ?_
  refine V_aload_n hX dX11_takesOf_1 1 rfl ?_
  obtain ⟨x3, w2, hcw2, hP⟩ := bnd_e hP
  refine V_callVi (As := [.ref (adK S a1)]) (rest := []) hX mk_X11_156 nk_X11_among (fun l => c_X11_among l S ha1 hcw2) tb_88 rfl ⟨rfl, rfl, Nat.le_of_ble_eq_true rfl, Nat.le_of_ble_eq_true rfl⟩ rfl rfl (Nat.le_of_ble_eq_true rfl) dX11_takesOf_2 ?_
  refine V_istore_n (lv' := [(2, .int x3), (0, rf S 88), (1, .ref (adK S a1))]) hX dX11_takesOf_5 (by decide) rfl ?_
  refine V_aload_n hX dX11_takesOf_6 1 rfl ?_
  refine V_dup hX dX11_takesOf_7 rfl ?_
  refine V_getI hX fk_X11_123 tb_88 (fun _ _ _ => rfl) dX11_takesOf_8 ?_
  refine V_iload_n hX dX11_takesOf_11 0 rfl ?_
  have k9 : V X S w2 20 [(2, .int x3), (0, rf S 88), (1, .ref (adK S a1))] [.int (if x3 < 0 then 0 else 1), .int (gI w2 88 15), rf S 88] := by
    refine V_topi (fun x5 ex5 => ?_)
    replace hP := lt_r ex5 hP
    obtain ⟨x7, w6, hcw6, hP⟩ := bnd_e hP
    refine V_callSi (As := [.int x5]) (rest := [.int (gI w2 88 15), rf S 88]) hX mk_X11_138 nk_X11_flag (fun l => c_X11_flag l S  hcw6) ⟨rfl, rfl, Nat.le_of_ble_eq_true rfl, Nat.le_of_ble_eq_true rfl⟩ rfl rfl (Nat.le_of_ble_eq_true rfl) dX11_takesOf_20 ?_
    refine V_iadd hX dX11_takesOf_23 ?_
    refine V_putI hX fw_X11_123 tb_88 (fun _ _ _ => ⟨Nat.le_of_ble_eq_true rfl, rfl⟩) dX11_takesOf_24 (fun w8 ew8 => ?_)
    replace hP := lt_r ew8 hP
    refine V_iload_n hX dX11_takesOf_27 0 rfl ?_
    exact hR _ _ _ _ (Option.some.inj hP) rfl dX11_takesOf_28
  refine V_if_lt (tgt := 19) hX dX11_takesOf_12 (by decide) (fun hc4 => ?_) (fun hc4 => ?_)
  · refine V_iconst (v := 0) hX dX11_takesOf_19 (by decide) ?_
    refine V_selT (c := x3 < 0) (b := 1) hc4 ?_
    exact k9
  · refine V_iconst (v := 1) hX dX11_takesOf_15 (by decide) ?_
    refine V_goto (tgt := 20) hX dX11_takesOf_16 (by decide) ?_
    refine V_selF (c := x3 < 0) (a := 0) hc4 ?_
    exact k9
theorem c_X11_takesOf (l : Launch) (S : Sx) {r : Int32 × Wd} {F : Nat} {w : Wd} {a1 : Nat} (ha1 : isStr a1 = true) (h : P_X11_takesOf F w a1 = some r) : Met l yX11_takesOf (wsg yX11_takesOf cX11_takesOf 3 (some .int)) rm_X11_takesOf (PC S w [rf S 88, .ref (adK S a1)]) (QCi S r) 0 0 (Aw S) :=
  met_i (by decide) rfl (Nat.le_of_ble_eq_true rfl) ⟨rfl, rfl⟩ (fun X hX hR => s_X11_takesOf ha1 hX hR h)

-- MustNotStopModel.number(I)I
abbrev rm_X11_number : Room := { frames := 3, cells := 0, slots := 0, locals := 109 }
theorem nk_X11_number : MNk yX11_number RX11 1 := ⟨rfl, by decide, by decide, by decide +kernel⟩
def L_X11_number_13 (F : Nat) (x1 : Int32) (k59 : Wd → Int32 → Option (Int32 × Wd)) : Nat → Wd → Int32 → Int32 → Option (Int32 × Wd)
  | 0, _, _, _ => none
  | n + 1, w, x5, x6 => (if x1 ≤ x6 then k59 w x5 else bnd (P_X11_isDigit F w ) (fun x10 w9 => (if x10 = 0 then k59 w9 x5 else gd (inB (gI w9 88 15) 80) (lt (((10 * x5) + (gI w9 97 (gI w9 88 15).toNatClampNeg)) - 48 : Int32) (fun x13 => lt (sI w9 88 15 ((gI w9 88 15) + 1)) (fun w14 => lt (x6 + 1 : Int32) (fun x15 => L_X11_number_13 F x1 k59 n w14 x13 x15)))))))
set_option maxRecDepth 100000 in
set_option maxHeartbeats 4000000 in
theorem sL_X11_number_13 {X : Cx} {S : Sx} {r : Int32 × Wd} {F : Nat} {x1 : Int32} {k59 : Wd → Int32 → Option (Int32 × Wd)} (hX : Ok X S cX11_number RX11 4 rm_X11_number) (hR : HRt X S cX11_number .int r)  (hk59 : ∀ (w : Wd) (x7 : Int32) , k59 w x7 = some r → V X S w 59 [(2, .int x7)] []) : ∀ (n : Nat) (w : Wd) (x5 : Int32) (x6 : Int32) , L_X11_number_13 F x1 k59 n w x5 x6 = some r → V X S w 13 [(0, rf S 88), (1, .int x1), (2, .int x5), (3, .int x6)] [] := by
  intro n
  induction n with
  | zero =>
    intro w x5 x6  hP
    exact nn hP
  | succ n ih =>
    intro w x5 x6  hP
    rw [L_X11_number_13] at hP
    refine V_iload_n hX dX11_number_13 3 rfl ?_
    refine V_iload_n hX dX11_number_14 1 rfl ?_
    refine V_icmp_ge (tgt := 59) hX dX11_number_15 (by decide) (fun hc8 => ?_) (fun hc8 => ?_)
    · replace hP := ite_t hc8 hP
      refine V_sub (lv' := [(2, .int x5)]) [2] rfl ?_
      exact hk59 _ _  hP
    · replace hP := ite_f hc8 hP
      refine V_aload_n hX dX11_number_18 0 rfl ?_
      obtain ⟨x10, w9, hcw9, hP⟩ := bnd_e hP
      refine V_callVi (As := []) (rest := []) hX mk_X11_160 nk_X11_isDigit (fun l => c_X11_isDigit l S  hcw9) tb_88 rfl ⟨rfl, rfl, Nat.le_of_ble_eq_true rfl, Nat.le_of_ble_eq_true rfl⟩ rfl rfl (Nat.le_of_ble_eq_true rfl) dX11_number_19 ?_
      refine V_if_eq (tgt := 59) hX dX11_number_22 (by decide) (fun hc11 => ?_) (fun hc11 => ?_)
      · replace hP := ite_t hc11 hP
        refine V_sub (lv' := [(2, .int x5)]) [2] rfl ?_
        exact hk59 _ _  hP
      · replace hP := ite_f hc11 hP
        refine V_bipush (v := 10) hX dX11_number_25 (by decide) ?_
        refine V_iload_n hX dX11_number_27 2 rfl ?_
        refine V_imul hX dX11_number_28 ?_
        refine V_aload_n hX dX11_number_29 0 rfl ?_
        refine V_getF (j := 97) hX fk_X11_35 tb_88 (fun _ _ _ => rfl) dX11_number_30 ?_
        refine V_aload_n hX dX11_number_33 0 rfl ?_
        refine V_getI hX fk_X11_123 tb_88 (fun _ _ _ => rfl) dX11_number_34 ?_
        obtain ⟨hi12, hP⟩ := gd_e hP
        refine V_iald hX tb_97 hi12 dX11_number_37 ?_
        refine V_iadd hX dX11_number_38 ?_
        refine V_bipush (v := 48) hX dX11_number_39 (by decide) ?_
        refine V_isub hX dX11_number_41 ?_
        refine V_topi (fun x13 ex13 => ?_)
        replace hP := lt_r ex13 hP
        refine V_istore_n (lv' := [(2, .int x13), (0, rf S 88), (1, .int x1), (3, .int x6)]) hX dX11_number_42 (by decide) rfl ?_
        refine V_aload_n hX dX11_number_43 1 rfl ?_
        refine V_dup hX dX11_number_44 rfl ?_
        refine V_getI hX fk_X11_123 tb_88 (fun _ _ _ => rfl) dX11_number_45 ?_
        refine V_iconst (v := 1) hX dX11_number_48 (by decide) ?_
        refine V_iadd hX dX11_number_49 ?_
        refine V_putI hX fw_X11_123 tb_88 (fun _ _ _ => ⟨Nat.le_of_ble_eq_true rfl, rfl⟩) dX11_number_50 (fun w14 ew14 => ?_)
        replace hP := lt_r ew14 hP
        obtain ⟨x15, ex15⟩ : ∃ y : Int32, y = x6 + 1 := ⟨_, rfl⟩
        replace hP := lt_r ex15 hP
        refine V_iinc (v := x15) (lv' := [(3, .int x15), (2, .int x13), (0, rf S 88), (1, .int x1)]) hX dX11_number_53 (j := 3) rfl (by decide) (by rw [ex15]; rfl) rfl ?_
        refine V_goto (tgt := 13) hX dX11_number_56 (by decide) ?_
        refine V_sub (lv' := [(0, rf S 88), (1, .int x1), (2, .int x13), (3, .int x15)]) [2, 3, 1, 0] rfl ?_
        exact ih _ _ _  hP
def P_X11_number (F : Nat) (w : Wd) (x1 : Int32) : Option (Int32 × Wd) := bnd (P_X11_isDigit F w ) (fun x3 w2 => (if x3 = 0 then some ((-1), w2) else L_X11_number_13 F x1 (fun w x7 => some (x7, w)) F w2 0 0))
set_option maxRecDepth 100000 in
set_option maxHeartbeats 4000000 in
theorem s_X11_number {X : Cx} {S : Sx} {r : Int32 × Wd} {F : Nat} {w : Wd} {x1 : Int32}  (hX : Ok X S cX11_number RX11 4 rm_X11_number) (hR : HRt X S cX11_number .int r) (hP : P_X11_number F w x1 = some r) : V X S w 0 [(0, rf S 88), (1, .int x1)] [] := by
  unfold P_X11_number at hP
  refine V_aload_n hX dX11_number_0 0 rfl ?_
  obtain ⟨x3, w2, hcw2, hP⟩ := bnd_e hP
  refine V_callVi (As := []) (rest := []) hX mk_X11_160 nk_X11_isDigit (fun l => c_X11_isDigit l S  hcw2) tb_88 rfl ⟨rfl, rfl, Nat.le_of_ble_eq_true rfl, Nat.le_of_ble_eq_true rfl⟩ rfl rfl (Nat.le_of_ble_eq_true rfl) dX11_number_1 ?_
  refine V_if_ne (tgt := 9) hX dX11_number_4 (by decide) (fun hc4 => ?_) (fun hc4 => ?_)
  · replace hP := ite_f hc4 hP
    refine V_iconst (v := 0) hX dX11_number_9 (by decide) ?_
    refine V_istore_n (lv' := [(2, .int 0), (0, rf S 88), (1, .int x1)]) hX dX11_number_10 (by decide) rfl ?_
    refine V_iconst (v := 0) hX dX11_number_11 (by decide) ?_
    refine V_istore_n (lv' := [(3, .int 0), (2, .int 0), (0, rf S 88), (1, .int x1)]) hX dX11_number_12 (by decide) rfl ?_
    refine V_sub (lv' := [(0, rf S 88), (1, .int x1), (2, .int 0), (3, .int 0)]) [2, 3, 1, 0] rfl ?_
    have k16 : ∀ (w : Wd) (x7 : Int32) , (some (x7, w)) = some r → V X S w 59 [(2, .int x7)] [] := by
      intro w x7  hP
      refine V_iload_n hX dX11_number_59 0 rfl ?_
      exact hR _ _ _ _ (Option.some.inj hP) rfl dX11_number_60
    exact sL_X11_number_13 hX hR  k16 F _ _ _  hP
  · replace hP := ite_t hc4 hP
    refine V_iconst (v := (-1)) hX dX11_number_7 (by decide) ?_
    exact hR _ _ _ _ (Option.some.inj hP) rfl dX11_number_8
theorem c_X11_number (l : Launch) (S : Sx) {r : Int32 × Wd} {F : Nat} {w : Wd} {x1 : Int32}  (h : P_X11_number F w x1 = some r) : Met l yX11_number (wsg yX11_number cX11_number 4 (some .int)) rm_X11_number (PC S w [rf S 88, .int x1]) (QCi S r) 0 0 (Aw S) :=
  met_i (by decide) rfl (Nat.le_of_ble_eq_true rfl) ⟨rfl, rfl⟩ (fun X hX hR => s_X11_number  hX hR h)

-- MustNotStopModel.faultOf(IIZ)I
abbrev rm_X11_faultOf : Room := { frames := 1, cells := 0, slots := 0, locals := 64 }
theorem nk_X11_faultOf : MNk yX11_faultOf RX11 3 := ⟨rfl, by decide, by decide, by decide +kernel⟩
def K_X11_faultOf_44 (F : Nat) (x1 : Int32) (x2 : Int32) (x3 : Int32)  (w : Wd) (x8 : Int32) : Option (Int32 × Wd) := lt (if x8 = 0 then ((-1)) - (gI w 88 15) else 0 : Int32) (fun x10 => some (x10, w))
set_option maxRecDepth 100000 in
set_option maxHeartbeats 4000000 in
theorem sK_X11_faultOf_44 {X : Cx} {S : Sx} {r : Int32 × Wd} {F : Nat} {x1 : Int32} {x2 : Int32} {x3 : Int32}  {w : Wd} {x8 : Int32} (hX : Ok X S cX11_faultOf RX11 5 rm_X11_faultOf) (hR : HRt X S cX11_faultOf .int r)    (hP : K_X11_faultOf_44 F x1 x2 x3  w x8 = some r) : V X S w 44 [(0, rf S 88), (4, .int x8)] [] := by
  unfold K_X11_faultOf_44 at hP
  refine V_iload hX dX11_faultOf_44 1 rfl ?_
  have k11 : V X S w 59 [(0, rf S 88), (4, .int x8)] [.int (if x8 = 0 then ((-1)) - (gI w 88 15) else 0)] := by
    refine V_topi (fun x10 ex10 => ?_)
    replace hP := lt_r ex10 hP
    exact hR _ _ _ _ (Option.some.inj hP) rfl dX11_faultOf_59
  refine V_if_eq (tgt := 53) hX dX11_faultOf_46 (by decide) (fun hc9 => ?_) (fun hc9 => ?_)
  · refine V_iconst (v := (-1)) hX dX11_faultOf_53 (by decide) ?_
    refine V_aload_n hX dX11_faultOf_54 0 rfl ?_
    refine V_getI hX fk_X11_123 tb_88 (fun _ _ _ => rfl) dX11_faultOf_55 ?_
    refine V_isub hX dX11_faultOf_58 ?_
    refine V_selT (c := x8 = 0) (b := 0) hc9 ?_
    exact k11
  · refine V_iconst (v := 0) hX dX11_faultOf_49 (by decide) ?_
    refine V_goto (tgt := 59) hX dX11_faultOf_50 (by decide) ?_
    refine V_selF (c := x8 = 0) (a := ((-1)) - (gI w 88 15)) hc9 ?_
    exact k11
def P_X11_faultOf (F : Nat) (w : Wd) (x1 : Int32) (x2 : Int32) (x3 : Int32) : Option (Int32 × Wd) := lt (if x3 = 0 then 0 else if (gI w 88 15) = (gI w 88 16) then 1 else 0 : Int32) (fun x6 => (if x1 ≤ x2 then K_X11_faultOf_44 F x1 x2 x3  w x6 else (if x6 = 0 then (if (gI w 88 15) < x2 then K_X11_faultOf_44 F x1 x2 x3  w x6 else some (((-1)) - x2, w)) else some (((-1)) - x2, w))))
set_option maxRecDepth 100000 in
set_option maxHeartbeats 4000000 in
theorem s_X11_faultOf {X : Cx} {S : Sx} {r : Int32 × Wd} {F : Nat} {w : Wd} {x1 : Int32} {x2 : Int32} {x3 : Int32}  (hX : Ok X S cX11_faultOf RX11 5 rm_X11_faultOf) (hR : HRt X S cX11_faultOf .int r) (hP : P_X11_faultOf F w x1 x2 x3 = some r) : V X S w 0 [(0, rf S 88), (1, .int x1), (2, .int x2), (3, .int x3)] [] := by
  unfold P_X11_faultOf at hP
  refine V_iload_n hX dX11_faultOf_0 3 rfl ?_
  have k14 : V X S w 20 [(0, rf S 88), (1, .int x1), (2, .int x2), (3, .int x3)] [.int (if x3 = 0 then 0 else if (gI w 88 15) = (gI w 88 16) then 1 else 0)] := by
    refine V_topi (fun x6 ex6 => ?_)
    replace hP := lt_r ex6 hP
    refine V_istore (lv' := [(4, .int x6), (0, rf S 88), (1, .int x1), (2, .int x2), (3, .int x3)]) hX dX11_faultOf_20 (by decide) rfl ?_
    refine V_iload_n hX dX11_faultOf_22 2 rfl ?_
    refine V_iload_n hX dX11_faultOf_23 3 rfl ?_
    refine V_icmp_le (tgt := 44) hX dX11_faultOf_24 (by decide) (fun hc7 => ?_) (fun hc7 => ?_)
    · replace hP := ite_t hc7 hP
      refine V_sub (lv' := [(0, rf S 88), (4, .int x6)]) [1, 0] rfl ?_
      exact sK_X11_faultOf_44 hX hR    hP
    · replace hP := ite_f hc7 hP
      refine V_iload hX dX11_faultOf_27 0 rfl ?_
      refine V_if_ne (tgt := 40) hX dX11_faultOf_29 (by decide) (fun hc12 => ?_) (fun hc12 => ?_)
      · replace hP := ite_f hc12 hP
        refine V_iconst (v := (-1)) hX dX11_faultOf_40 (by decide) ?_
        refine V_iload_n hX dX11_faultOf_41 3 rfl ?_
        refine V_isub hX dX11_faultOf_42 ?_
        exact hR _ _ _ _ (Option.some.inj hP) rfl dX11_faultOf_43
      · replace hP := ite_t hc12 hP
        refine V_aload_n hX dX11_faultOf_32 1 rfl ?_
        refine V_getI hX fk_X11_123 tb_88 (fun _ _ _ => rfl) dX11_faultOf_33 ?_
        refine V_iload_n hX dX11_faultOf_36 3 rfl ?_
        refine V_icmp_lt (tgt := 44) hX dX11_faultOf_37 (by decide) (fun hc13 => ?_) (fun hc13 => ?_)
        · replace hP := ite_t hc13 hP
          refine V_sub (lv' := [(0, rf S 88), (4, .int x6)]) [1, 0] rfl ?_
          exact sK_X11_faultOf_44 hX hR    hP
        · replace hP := ite_f hc13 hP
          refine V_iconst (v := (-1)) hX dX11_faultOf_40 (by decide) ?_
          refine V_iload_n hX dX11_faultOf_41 3 rfl ?_
          refine V_isub hX dX11_faultOf_42 ?_
          exact hR _ _ _ _ (Option.some.inj hP) rfl dX11_faultOf_43
  refine V_if_eq (tgt := 19) hX dX11_faultOf_1 (by decide) (fun hc5 => ?_) (fun hc5 => ?_)
  · refine V_iconst (v := 0) hX dX11_faultOf_19 (by decide) ?_
    refine V_selT (c := x3 = 0) (b := if (gI w 88 15) = (gI w 88 16) then 1 else 0) hc5 ?_
    exact k14
  · refine V_aload_n hX dX11_faultOf_4 0 rfl ?_
    refine V_getI hX fk_X11_123 tb_88 (fun _ _ _ => rfl) dX11_faultOf_5 ?_
    refine V_aload_n hX dX11_faultOf_8 0 rfl ?_
    refine V_getI hX fk_X11_135 tb_88 (fun _ _ _ => rfl) dX11_faultOf_9 ?_
    refine V_icmp_ne (tgt := 19) hX dX11_faultOf_12 (by decide) (fun hc4 => ?_) (fun hc4 => ?_)
    · refine V_iconst (v := 0) hX dX11_faultOf_19 (by decide) ?_
      refine V_selF (c := (gI w 88 15) = (gI w 88 16)) (a := 1) hc4 ?_
      refine V_selF (c := x3 = 0) (a := 0) hc5 ?_
      exact k14
    · refine V_iconst (v := 1) hX dX11_faultOf_15 (by decide) ?_
      refine V_goto (tgt := 20) hX dX11_faultOf_16 (by decide) ?_
      refine V_selT (c := (gI w 88 15) = (gI w 88 16)) (b := 0) hc4 ?_
      refine V_selF (c := x3 = 0) (a := 0) hc5 ?_
      exact k14
theorem c_X11_faultOf (l : Launch) (S : Sx) {r : Int32 × Wd} {F : Nat} {w : Wd} {x1 : Int32} {x2 : Int32} {x3 : Int32}  (h : P_X11_faultOf F w x1 x2 x3 = some r) : Met l yX11_faultOf (wsg yX11_faultOf cX11_faultOf 5 (some .int)) rm_X11_faultOf (PC S w [rf S 88, .int x1, .int x2, .int x3]) (QCi S r) 0 0 (Aw S) :=
  met_i (by decide) rfl (Nat.le_of_ble_eq_true rfl) ⟨rfl, rfl⟩ (fun X hX hR => s_X11_faultOf  hX hR h)
