-- MustNotStop$Acts.beginsAt(LMustNotStop$Text;I)Z
abbrev rm_X0_beginsAt : Room := { frames := 2, cells := 0, slots := 0, locals := 85 }
theorem nk_X0_beginsAt : MNk yX0_beginsAt RX0 2 := ⟨rfl, by decide, by decide, by decide +kernel⟩
def K_X0_beginsAt_16 (F : Nat) (x1 : Int32)  (w : Wd)  : Option (Int32 × Wd) := some (1, w)
set_option maxRecDepth 100000 in
set_option maxHeartbeats 4000000 in
theorem sK_X0_beginsAt_16 {X : Cx} {S : Sx} {r : Int32 × Wd} {F : Nat} {x1 : Int32}  {w : Wd}  (hX : Ok X S cX0_beginsAt RX0 2 rm_X0_beginsAt) (hR : HRt X S cX0_beginsAt .boolean r)    (hP : K_X0_beginsAt_16 F x1  w  = some r) : V X S w 16 [] [] := by
  unfold K_X0_beginsAt_16 at hP
  refine V_iconst (v := 1) hX dX0_beginsAt_16 (by decide) ?_
  refine V_goto (tgt := 21) hX dX0_beginsAt_17 (by decide) ?_
  exact hR _ _ _ _ (Option.some.inj hP) rfl dX0_beginsAt_21
def P_X0_beginsAt (F : Nat) (w : Wd) (x1 : Int32) : Option (Int32 × Wd) := (if x1 = 0 then K_X0_beginsAt_16 F x1  w  else bnd (P_X8_at F w (x1 - 1)) (fun x4 w3 => lt (if x4 = 59 then 1 else 0 : Int32) (fun x6 => gd (isZO x6) (some (x6, w3)))))
set_option maxRecDepth 100000 in
set_option maxHeartbeats 4000000 in
theorem s_X0_beginsAt {X : Cx} {S : Sx} {r : Int32 × Wd} {F : Nat} {w : Wd} {x1 : Int32}  (hX : Ok X S cX0_beginsAt RX0 2 rm_X0_beginsAt) (hR : HRt X S cX0_beginsAt .boolean r) (hP : P_X0_beginsAt F w x1 = some r) : V X S w 0 [(0, rf S 1), (1, .int x1)] [] := by
  unfold P_X0_beginsAt at hP
  refine V_iload_n hX dX0_beginsAt_0 1 rfl ?_
  refine V_if_eq (tgt := 16) hX dX0_beginsAt_1 (by decide) (fun hc2 => ?_) (fun hc2 => ?_)
  · replace hP := ite_t hc2 hP
    refine V_sub (lv' := []) [] rfl ?_
    exact sK_X0_beginsAt_16 hX hR    hP
  · replace hP := ite_f hc2 hP
    refine V_aload_n hX dX0_beginsAt_4 0 rfl ?_
    refine V_iload_n hX dX0_beginsAt_5 1 rfl ?_
    refine V_iconst (v := 1) hX dX0_beginsAt_6 (by decide) ?_
    refine V_isub hX dX0_beginsAt_7 ?_
    obtain ⟨x4, w3, hcw3, hP⟩ := bnd_e hP
    refine V_callVi (As := [.int (x1 - 1)]) (rest := []) hX mk_X0_21 nk_X8_at (fun l => c_X8_at l S  hcw3) tb_1 rfl ⟨rfl, rfl, Nat.le_of_ble_eq_true rfl, Nat.le_of_ble_eq_true rfl⟩ rfl rfl (Nat.le_of_ble_eq_true rfl) dX0_beginsAt_8 ?_
    refine V_bipush (v := 59) hX dX0_beginsAt_11 (by decide) ?_
    have k8 : V X S w3 21 [(0, rf S 1), (1, .int x1)] [.int (if x4 = 59 then 1 else 0)] := by
      refine V_topi (fun x6 ex6 => ?_)
      replace hP := lt_r ex6 hP
      obtain ⟨hz7, hP⟩ := gd_e hP
      exact hR _ _ _ _ (Option.some.inj hP) (nar_z hz7) dX0_beginsAt_21
    refine V_icmp_ne (tgt := 20) hX dX0_beginsAt_13 (by decide) (fun hc5 => ?_) (fun hc5 => ?_)
    · refine V_iconst (v := 0) hX dX0_beginsAt_20 (by decide) ?_
      refine V_selF (c := x4 = 59) (a := 1) hc5 ?_
      exact k8
    · refine V_iconst (v := 1) hX dX0_beginsAt_16 (by decide) ?_
      refine V_goto (tgt := 21) hX dX0_beginsAt_17 (by decide) ?_
      refine V_selT (c := x4 = 59) (b := 0) hc5 ?_
      exact k8
theorem c_X0_beginsAt (l : Launch) (S : Sx) {r : Int32 × Wd} {F : Nat} {w : Wd} {x1 : Int32}  (h : P_X0_beginsAt F w x1 = some r) : Met l yX0_beginsAt (wsg yX0_beginsAt cX0_beginsAt 2 (some .boolean)) rm_X0_beginsAt (PC S w [rf S 1, .int x1]) (QCi S r) 0 0 (Aw S) :=
  met_i (by decide) rfl (Nat.le_of_ble_eq_true rfl) ⟨rfl, rfl⟩ (fun X hX hR => s_X0_beginsAt  hX hR h)

-- MustNotStop$Law.lengthen(I)Z
abbrev rm_X2_lengthen : Room := { frames := 1, cells := 0, slots := 0, locals := 64 }
theorem nk_X2_lengthen : MNk yX2_lengthen RX2 1 := ⟨rfl, by decide, by decide, by decide +kernel⟩
def P_X2_lengthen (F : Nat) (w : Wd) (a1 : Nat) (x2 : Int32) : Option (Int32 × Wd) := (if (gI w a1 8) < 1 then some (0, w) else (if (2 : Int32) < (gI w a1 8) then some (0, w) else (if (gI w a1 1) < 1 then some (0, w) else (if (gI w a1 1) ≤ 40 then gd (inB ((gI w a1 1) - 1) 40) (gd (inB ((gI w a1 1) - 1) 40) (lt (sI w (a1 + 1) ((gI w a1 1) - 1).toNatClampNeg (((gI w (a1 + 1) ((gI w a1 1) - 1).toNatClampNeg) * 10) + x2)) (fun w9 => lt (sI w9 a1 8 ((gI w9 a1 8) + 1)) (fun w10 => some (1, w10))))) else some (0, w)))))
set_option maxRecDepth 100000 in
set_option maxHeartbeats 4000000 in
theorem s_X2_lengthen {X : Cx} {S : Sx} {r : Int32 × Wd} {F : Nat} {w : Wd} {a1 : Nat} {x2 : Int32} (ha1 : isX2 a1 = true) (hX : Ok X S cX2_lengthen RX2 2 rm_X2_lengthen) (hR : HRt X S cX2_lengthen .boolean r) (hP : P_X2_lengthen F w a1 x2 = some r) : V X S w 0 [(0, rf S a1), (1, .int x2)] [] := by
  unfold P_X2_lengthen at hP
  refine V_aload_n hX dX2_lengthen_0 0 rfl ?_
  refine V_getI hX fk_X2_37 (tb_X2 ha1) (fun _ _ _ => rfl) dX2_lengthen_1 ?_
  refine V_iconst (v := 1) hX dX2_lengthen_4 (by decide) ?_
  refine V_icmp_lt (tgt := 36) hX dX2_lengthen_5 (by decide) (fun hc3 => ?_) (fun hc3 => ?_)
  · replace hP := ite_t hc3 hP
    refine V_iconst (v := 0) hX dX2_lengthen_36 (by decide) ?_
    exact hR _ _ _ _ (Option.some.inj hP) rfl dX2_lengthen_37
  · replace hP := ite_f hc3 hP
    refine V_aload_n hX dX2_lengthen_8 0 rfl ?_
    refine V_getI hX fk_X2_37 (tb_X2 ha1) (fun _ _ _ => rfl) dX2_lengthen_9 ?_
    refine V_iconst (v := 2) hX dX2_lengthen_12 (by decide) ?_
    refine V_icmp_gt (tgt := 36) hX dX2_lengthen_13 (by decide) (fun hc4 => ?_) (fun hc4 => ?_)
    · replace hP := ite_t hc4 hP
      refine V_iconst (v := 0) hX dX2_lengthen_36 (by decide) ?_
      exact hR _ _ _ _ (Option.some.inj hP) rfl dX2_lengthen_37
    · replace hP := ite_f hc4 hP
      refine V_aload_n hX dX2_lengthen_16 0 rfl ?_
      refine V_getI hX fk_X2_15 (tb_X2 ha1) (fun _ _ _ => rfl) dX2_lengthen_17 ?_
      refine V_iconst (v := 1) hX dX2_lengthen_20 (by decide) ?_
      refine V_icmp_lt (tgt := 36) hX dX2_lengthen_21 (by decide) (fun hc5 => ?_) (fun hc5 => ?_)
      · replace hP := ite_t hc5 hP
        refine V_iconst (v := 0) hX dX2_lengthen_36 (by decide) ?_
        exact hR _ _ _ _ (Option.some.inj hP) rfl dX2_lengthen_37
      · replace hP := ite_f hc5 hP
        refine V_aload_n hX dX2_lengthen_24 0 rfl ?_
        refine V_getI hX fk_X2_15 (tb_X2 ha1) (fun _ _ _ => rfl) dX2_lengthen_25 ?_
        refine V_aload_n hX dX2_lengthen_28 0 rfl ?_
        refine V_getF (j := a1 + 1) hX fk_X2_9 (tb_X2 ha1) (fun _ _ _ => rfl) dX2_lengthen_29 ?_
        refine V_alenI (v := 40) hX (tb_X2_1 ha1) (by decide) dX2_lengthen_32 ?_
        refine V_icmp_le (tgt := 38) hX dX2_lengthen_33 (by decide) (fun hc6 => ?_) (fun hc6 => ?_)
        · replace hP := ite_t hc6 hP
          refine V_aload_n hX dX2_lengthen_38 0 rfl ?_
          refine V_getF (j := a1 + 1) hX fk_X2_9 (tb_X2 ha1) (fun _ _ _ => rfl) dX2_lengthen_39 ?_
          refine V_aload_n hX dX2_lengthen_42 0 rfl ?_
          refine V_getI hX fk_X2_15 (tb_X2 ha1) (fun _ _ _ => rfl) dX2_lengthen_43 ?_
          refine V_iconst (v := 1) hX dX2_lengthen_46 (by decide) ?_
          refine V_isub hX dX2_lengthen_47 ?_
          refine V_aload_n hX dX2_lengthen_48 0 rfl ?_
          refine V_getF (j := a1 + 1) hX fk_X2_9 (tb_X2 ha1) (fun _ _ _ => rfl) dX2_lengthen_49 ?_
          refine V_aload_n hX dX2_lengthen_52 0 rfl ?_
          refine V_getI hX fk_X2_15 (tb_X2 ha1) (fun _ _ _ => rfl) dX2_lengthen_53 ?_
          refine V_iconst (v := 1) hX dX2_lengthen_56 (by decide) ?_
          refine V_isub hX dX2_lengthen_57 ?_
          obtain ⟨hi7, hP⟩ := gd_e hP
          refine V_iald hX (tb_X2_1 ha1) hi7 dX2_lengthen_58 ?_
          refine V_bipush (v := 10) hX dX2_lengthen_59 (by decide) ?_
          refine V_imul hX dX2_lengthen_61 ?_
          refine V_iload_n hX dX2_lengthen_62 1 rfl ?_
          refine V_iadd hX dX2_lengthen_63 ?_
          obtain ⟨hi8, hP⟩ := gd_e hP
          refine V_iast hX (tb_X2_1 ha1) hi8 dX2_lengthen_64 (fun w9 ew9 => ?_)
          replace hP := lt_r ew9 hP
          refine V_aload_n hX dX2_lengthen_65 0 rfl ?_
          refine V_dup hX dX2_lengthen_66 rfl ?_
          refine V_getI hX fk_X2_37 (tb_X2 ha1) (fun _ _ _ => rfl) dX2_lengthen_67 ?_
          refine V_iconst (v := 1) hX dX2_lengthen_70 (by decide) ?_
          refine V_iadd hX dX2_lengthen_71 ?_
          refine V_putI hX fw_X2_37 (tb_X2 ha1) (fun _ _ _ => ⟨Nat.le_of_ble_eq_true rfl, rfl⟩) dX2_lengthen_72 (fun w10 ew10 => ?_)
          replace hP := lt_r ew10 hP
          refine V_iconst (v := 1) hX dX2_lengthen_75 (by decide) ?_
          exact hR _ _ _ _ (Option.some.inj hP) rfl dX2_lengthen_76
        · replace hP := ite_f hc6 hP
          refine V_iconst (v := 0) hX dX2_lengthen_36 (by decide) ?_
          exact hR _ _ _ _ (Option.some.inj hP) rfl dX2_lengthen_37
theorem c_X2_lengthen (l : Launch) (S : Sx) {r : Int32 × Wd} {F : Nat} {w : Wd} {a1 : Nat} {x2 : Int32} (ha1 : isX2 a1 = true) (h : P_X2_lengthen F w a1 x2 = some r) : Met l yX2_lengthen (wsg yX2_lengthen cX2_lengthen 2 (some .boolean)) rm_X2_lengthen (PC S w [rf S a1, .int x2]) (QCi S r) 0 0 (Aw S) :=
  met_i (by decide) rfl (Nat.le_of_ble_eq_true rfl) ⟨rfl, rfl⟩ (fun X hX hR => s_X2_lengthen ha1 hX hR h)

-- MustNotStop$Law.rank(I)I
abbrev rm_X2_rank : Room := { frames := 1, cells := 0, slots := 0, locals := 64 }
theorem nk_X2_rank : MNk yX2_rank RX2 1 := ⟨rfl, by decide, by decide, by decide +kernel⟩
def P_X2_rank (F : Nat) (w : Wd) (x1 : Int32) : Option (Int32 × Wd) := (if x1 = 42 then some (3, w) else (if x1 = 43 then some (2, w) else (if x1 = 45 then some (2, w) else (if x1 = 47 then some (3, w) else (if x1 = 60 then some (1, w) else (if x1 = 61 then some (1, w) else (if x1 = 62 then some (1, w) else (if x1 = 126 then some (4, w) else some (0, w)))))))))
set_option maxRecDepth 100000 in
set_option maxHeartbeats 4000000 in
theorem s_X2_rank {X : Cx} {S : Sx} {r : Int32 × Wd} {F : Nat} {w : Wd} {x1 : Int32}  (hX : Ok X S cX2_rank RX2 1 rm_X2_rank) (hR : HRt X S cX2_rank .int r) (hP : P_X2_rank F w x1 = some r) : V X S w 0 [(0, .int x1)] [] := by
  unfold P_X2_rank at hP
  refine V_iload_n hX dX2_rank_0 0 rfl ?_
  by_cases hc2 : x1 = 42
  · replace hP := ite_t hc2 hP
    refine V_lookup (tgt := 80) hX dX2_rank_1 (by decide) (by rw [hc2] <;> rfl) (by decide) ?_
    refine V_iconst (v := 3) hX dX2_rank_80 (by decide) ?_
    exact hR _ _ _ _ (Option.some.inj hP) rfl dX2_rank_81
  replace hP := ite_f hc2 hP
  by_cases hc3 : x1 = 43
  · replace hP := ite_t hc3 hP
    refine V_lookup (tgt := 78) hX dX2_rank_1 (by decide) (by rw [hc3] <;> rfl) (by decide) ?_
    refine V_iconst (v := 2) hX dX2_rank_78 (by decide) ?_
    exact hR _ _ _ _ (Option.some.inj hP) rfl dX2_rank_79
  replace hP := ite_f hc3 hP
  by_cases hc4 : x1 = 45
  · replace hP := ite_t hc4 hP
    refine V_lookup (tgt := 78) hX dX2_rank_1 (by decide) (by rw [hc4] <;> rfl) (by decide) ?_
    refine V_iconst (v := 2) hX dX2_rank_78 (by decide) ?_
    exact hR _ _ _ _ (Option.some.inj hP) rfl dX2_rank_79
  replace hP := ite_f hc4 hP
  by_cases hc5 : x1 = 47
  · replace hP := ite_t hc5 hP
    refine V_lookup (tgt := 80) hX dX2_rank_1 (by decide) (by rw [hc5] <;> rfl) (by decide) ?_
    refine V_iconst (v := 3) hX dX2_rank_80 (by decide) ?_
    exact hR _ _ _ _ (Option.some.inj hP) rfl dX2_rank_81
  replace hP := ite_f hc5 hP
  by_cases hc6 : x1 = 60
  · replace hP := ite_t hc6 hP
    refine V_lookup (tgt := 76) hX dX2_rank_1 (by decide) (by rw [hc6] <;> rfl) (by decide) ?_
    refine V_iconst (v := 1) hX dX2_rank_76 (by decide) ?_
    exact hR _ _ _ _ (Option.some.inj hP) rfl dX2_rank_77
  replace hP := ite_f hc6 hP
  by_cases hc7 : x1 = 61
  · replace hP := ite_t hc7 hP
    refine V_lookup (tgt := 76) hX dX2_rank_1 (by decide) (by rw [hc7] <;> rfl) (by decide) ?_
    refine V_iconst (v := 1) hX dX2_rank_76 (by decide) ?_
    exact hR _ _ _ _ (Option.some.inj hP) rfl dX2_rank_77
  replace hP := ite_f hc7 hP
  by_cases hc8 : x1 = 62
  · replace hP := ite_t hc8 hP
    refine V_lookup (tgt := 76) hX dX2_rank_1 (by decide) (by rw [hc8] <;> rfl) (by decide) ?_
    refine V_iconst (v := 1) hX dX2_rank_76 (by decide) ?_
    exact hR _ _ _ _ (Option.some.inj hP) rfl dX2_rank_77
  replace hP := ite_f hc8 hP
  by_cases hc9 : x1 = 126
  · replace hP := ite_t hc9 hP
    refine V_lookup (tgt := 82) hX dX2_rank_1 (by decide) (by rw [hc9] <;> rfl) (by decide) ?_
    refine V_iconst (v := 4) hX dX2_rank_82 (by decide) ?_
    exact hR _ _ _ _ (Option.some.inj hP) rfl dX2_rank_83
  replace hP := ite_f hc9 hP
  refine V_lookup (tgt := 84) hX dX2_rank_1 (by decide) (lk_out (by
      intro q hq
      simp only [List.mem_cons, List.not_mem_nil, or_false] at hq
      rcases hq with rfl | rfl | rfl | rfl | rfl | rfl | rfl | rfl
      · exact fun e => hc2 (i32_ext (e.trans rfl))
      · exact fun e => hc3 (i32_ext (e.trans rfl))
      · exact fun e => hc4 (i32_ext (e.trans rfl))
      · exact fun e => hc5 (i32_ext (e.trans rfl))
      · exact fun e => hc6 (i32_ext (e.trans rfl))
      · exact fun e => hc7 (i32_ext (e.trans rfl))
      · exact fun e => hc8 (i32_ext (e.trans rfl))
      · exact fun e => hc9 (i32_ext (e.trans rfl))
      )) (by decide) ?_
  refine V_iconst (v := 0) hX dX2_rank_84 (by decide) ?_
  exact hR _ _ _ _ (Option.some.inj hP) rfl dX2_rank_85
theorem c_X2_rank (l : Launch) (S : Sx) {r : Int32 × Wd} {F : Nat} {w : Wd} {x1 : Int32}  (h : P_X2_rank F w x1 = some r) : Met l yX2_rank (wsg yX2_rank cX2_rank 1 (some .int)) rm_X2_rank (PC S w [.int x1]) (QCi S r) 0 0 (Aw S) :=
  met_i (by decide) rfl (Nat.le_of_ble_eq_true rfl) ⟨rfl, rfl⟩ (fun X hX hR => s_X2_rank  hX hR h)

-- MustNotStop$Law.put(I)V
abbrev rm_X2_put : Room := { frames := 1, cells := 0, slots := 0, locals := 64 }
theorem nk_X2_put : MNk yX2_put RX2 1 := ⟨rfl, by decide, by decide, by decide +kernel⟩
def P_X2_put (F : Nat) (w : Wd) (a1 : Nat) (x2 : Int32) : Option (Wd) := (if (gI w a1 1) < 0 then some w else (if (40 : Int32) ≤ (gI w a1 1) then some w else gd (inB (gI w a1 1) 40) (lt (sI w (a1 + 1) (gI w a1 1).toNatClampNeg x2) (fun w6 => lt (sI w6 a1 1 ((gI w6 a1 1) + 1)) (fun w7 => some w7)))))
set_option maxRecDepth 100000 in
set_option maxHeartbeats 4000000 in
theorem s_X2_put {X : Cx} {S : Sx} {r : Wd} {F : Nat} {w : Wd} {a1 : Nat} {x2 : Int32} (ha1 : isX2 a1 = true) (hX : Ok X S cX2_put RX2 2 rm_X2_put) (hR : HRv X S cX2_put r) (hP : P_X2_put F w a1 x2 = some r) : V X S w 0 [(0, rf S a1), (1, .int x2)] [] := by
  unfold P_X2_put at hP
  refine V_aload_n hX dX2_put_0 0 rfl ?_
  refine V_getI hX fk_X2_15 (tb_X2 ha1) (fun _ _ _ => rfl) dX2_put_1 ?_
  refine V_if_lt (tgt := 39) hX dX2_put_4 (by decide) (fun hc3 => ?_) (fun hc3 => ?_)
  · replace hP := ite_t hc3 hP
    exact hR _ _ _ (Option.some.inj hP) dX2_put_39
  · replace hP := ite_f hc3 hP
    refine V_aload_n hX dX2_put_7 0 rfl ?_
    refine V_getI hX fk_X2_15 (tb_X2 ha1) (fun _ _ _ => rfl) dX2_put_8 ?_
    refine V_aload_n hX dX2_put_11 0 rfl ?_
    refine V_getF (j := a1 + 1) hX fk_X2_9 (tb_X2 ha1) (fun _ _ _ => rfl) dX2_put_12 ?_
    refine V_alenI (v := 40) hX (tb_X2_1 ha1) (by decide) dX2_put_15 ?_
    refine V_icmp_ge (tgt := 39) hX dX2_put_16 (by decide) (fun hc4 => ?_) (fun hc4 => ?_)
    · replace hP := ite_t hc4 hP
      exact hR _ _ _ (Option.some.inj hP) dX2_put_39
    · replace hP := ite_f hc4 hP
      refine V_aload_n hX dX2_put_19 0 rfl ?_
      refine V_getF (j := a1 + 1) hX fk_X2_9 (tb_X2 ha1) (fun _ _ _ => rfl) dX2_put_20 ?_
      refine V_aload_n hX dX2_put_23 0 rfl ?_
      refine V_getI hX fk_X2_15 (tb_X2 ha1) (fun _ _ _ => rfl) dX2_put_24 ?_
      refine V_iload_n hX dX2_put_27 1 rfl ?_
      obtain ⟨hi5, hP⟩ := gd_e hP
      refine V_iast hX (tb_X2_1 ha1) hi5 dX2_put_28 (fun w6 ew6 => ?_)
      replace hP := lt_r ew6 hP
      refine V_aload_n hX dX2_put_29 0 rfl ?_
      refine V_dup hX dX2_put_30 rfl ?_
      refine V_getI hX fk_X2_15 (tb_X2 ha1) (fun _ _ _ => rfl) dX2_put_31 ?_
      refine V_iconst (v := 1) hX dX2_put_34 (by decide) ?_
      refine V_iadd hX dX2_put_35 ?_
      refine V_putI hX fw_X2_15 (tb_X2 ha1) (fun _ _ _ => ⟨Nat.le_of_ble_eq_true rfl, rfl⟩) dX2_put_36 (fun w7 ew7 => ?_)
      replace hP := lt_r ew7 hP
      exact hR _ _ _ (Option.some.inj hP) dX2_put_39
theorem c_X2_put (l : Launch) (S : Sx) {r : Wd} {F : Nat} {w : Wd} {a1 : Nat} {x2 : Int32} (ha1 : isX2 a1 = true) (h : P_X2_put F w a1 x2 = some r) : Met l yX2_put (wsg yX2_put cX2_put 2 none) rm_X2_put (PC S w [rf S a1, .int x2]) (QCv S r) 0 0 (Aw S) :=
  met_v (by decide) rfl (Nat.le_of_ble_eq_true rfl) ⟨rfl, rfl⟩ (fun X hX hR => s_X2_put ha1 hX hR h)

-- MustNotStop$Law.release(I)V
abbrev rm_X2_release : Room := { frames := 2, cells := 0, slots := 0, locals := 85 }
theorem nk_X2_release : MNk yX2_release RX2 1 := ⟨rfl, by decide, by decide, by decide +kernel⟩
def L_X2_release_0 (F : Nat) (a1 : Nat) (x2 : Int32) (k67 : Wd → Option (Wd)) : Nat → Wd → Option (Wd)
  | 0, _ => none
  | n + 1, w => (if (gI w a1 5) ≤ 0 then k67 w  else (if (40 : Int32) < (gI w a1 5) then k67 w  else gd (inB ((gI w a1 5) - 1) 40) (bnd (P_X2_rank F w (gI w (a1 + 4) ((gI w a1 5) - 1).toNatClampNeg)) (fun x16 w15 => (if x16 < x2 then k67 w15  else lt (sI w15 a1 5 ((gI w15 a1 5) - 1)) (fun w18 => gd (inB (gI w18 a1 5) 40) (bnv (P_X2_put F w18 a1 (1010 + (gI w18 (a1 + 4) (gI w18 a1 5).toNatClampNeg))) (fun w20 => L_X2_release_0 F a1 x2 k67 n w20 ))))))))
set_option maxRecDepth 100000 in
set_option maxHeartbeats 4000000 in
theorem sL_X2_release_0 {X : Cx} {S : Sx} {r : Wd} {F : Nat} {a1 : Nat} {x2 : Int32} {k67 : Wd → Option (Wd)} (hX : Ok X S cX2_release RX2 2 rm_X2_release) (hR : HRv X S cX2_release r) (ha1 : isX2 a1 = true) (hk67 : ∀ (w : Wd), k67 w = some r → V X S w 67 [] []) : ∀ (n : Nat) (w : Wd)  , L_X2_release_0 F a1 x2 k67 n w  = some r → V X S w 0 [(0, rf S a1), (1, .int x2)] [] := by
  intro n
  induction n with
  | zero =>
    intro w   hP
    exact nn hP
  | succ n ih =>
    intro w   hP
    rw [L_X2_release_0] at hP
    refine V_aload_n hX dX2_release_0 0 rfl ?_
    refine V_getI hX fk_X2_28 (tb_X2 ha1) (fun _ _ _ => rfl) dX2_release_1 ?_
    refine V_if_le (tgt := 67) hX dX2_release_4 (by decide) (fun hc12 => ?_) (fun hc12 => ?_)
    · replace hP := ite_t hc12 hP
      refine V_sub (lv' := []) [] rfl ?_
      exact hk67 _   hP
    · replace hP := ite_f hc12 hP
      refine V_aload_n hX dX2_release_7 0 rfl ?_
      refine V_getI hX fk_X2_28 (tb_X2 ha1) (fun _ _ _ => rfl) dX2_release_8 ?_
      refine V_aload_n hX dX2_release_11 0 rfl ?_
      refine V_getF (j := a1 + 4) hX fk_X2_25 (tb_X2 ha1) (fun _ _ _ => rfl) dX2_release_12 ?_
      refine V_alenI (v := 40) hX (tb_X2_4 ha1) (by decide) dX2_release_15 ?_
      refine V_icmp_gt (tgt := 67) hX dX2_release_16 (by decide) (fun hc13 => ?_) (fun hc13 => ?_)
      · replace hP := ite_t hc13 hP
        refine V_sub (lv' := []) [] rfl ?_
        exact hk67 _   hP
      · replace hP := ite_f hc13 hP
        refine V_aload_n hX dX2_release_19 0 rfl ?_
        refine V_getF (j := a1 + 4) hX fk_X2_25 (tb_X2 ha1) (fun _ _ _ => rfl) dX2_release_20 ?_
        refine V_aload_n hX dX2_release_23 0 rfl ?_
        refine V_getI hX fk_X2_28 (tb_X2 ha1) (fun _ _ _ => rfl) dX2_release_24 ?_
        refine V_iconst (v := 1) hX dX2_release_27 (by decide) ?_
        refine V_isub hX dX2_release_28 ?_
        obtain ⟨hi14, hP⟩ := gd_e hP
        refine V_iald hX (tb_X2_4 ha1) hi14 dX2_release_29 ?_
        obtain ⟨x16, w15, hcw15, hP⟩ := bnd_e hP
        refine V_callSi (As := [.int (gI w (a1 + 4) ((gI w a1 5) - 1).toNatClampNeg)]) (rest := []) hX mk_X2_97 nk_X2_rank (fun l => c_X2_rank l S  hcw15) ⟨rfl, rfl, Nat.le_of_ble_eq_true rfl, Nat.le_of_ble_eq_true rfl⟩ rfl rfl (Nat.le_of_ble_eq_true rfl) dX2_release_30 ?_
        refine V_iload_n hX dX2_release_33 1 rfl ?_
        refine V_icmp_lt (tgt := 67) hX dX2_release_34 (by decide) (fun hc17 => ?_) (fun hc17 => ?_)
        · replace hP := ite_t hc17 hP
          refine V_sub (lv' := []) [] rfl ?_
          exact hk67 _   hP
        · replace hP := ite_f hc17 hP
          refine V_aload_n hX dX2_release_37 0 rfl ?_
          refine V_dup hX dX2_release_38 rfl ?_
          refine V_getI hX fk_X2_28 (tb_X2 ha1) (fun _ _ _ => rfl) dX2_release_39 ?_
          refine V_iconst (v := 1) hX dX2_release_42 (by decide) ?_
          refine V_isub hX dX2_release_43 ?_
          refine V_putI hX fw_X2_28 (tb_X2 ha1) (fun _ _ _ => ⟨Nat.le_of_ble_eq_true rfl, rfl⟩) dX2_release_44 (fun w18 ew18 => ?_)
          replace hP := lt_r ew18 hP
          refine V_aload_n hX dX2_release_47 0 rfl ?_
          refine V_sipush (v := 1010) hX dX2_release_48 (by decide) ?_
          refine V_aload_n hX dX2_release_51 0 rfl ?_
          refine V_getF (j := a1 + 4) hX fk_X2_25 (tb_X2 ha1) (fun _ _ _ => rfl) dX2_release_52 ?_
          refine V_aload_n hX dX2_release_55 0 rfl ?_
          refine V_getI hX fk_X2_28 (tb_X2 ha1) (fun _ _ _ => rfl) dX2_release_56 ?_
          obtain ⟨hi19, hP⟩ := gd_e hP
          refine V_iald hX (tb_X2_4 ha1) hi19 dX2_release_59 ?_
          refine V_iadd hX dX2_release_60 ?_
          obtain ⟨w20, hcw20, hP⟩ := bnv_e hP
          refine V_callVv (As := [.int (1010 + (gI w18 (a1 + 4) (gI w18 a1 5).toNatClampNeg))]) (rest := []) hX mk_X2_82 nk_X2_put (fun l => c_X2_put l S ha1 hcw20) (tb_X2 ha1) rfl ⟨rfl, rfl, Nat.le_of_ble_eq_true rfl, Nat.le_of_ble_eq_true rfl⟩ rfl rfl (Nat.le_of_ble_eq_true rfl) dX2_release_61 ?_
          refine V_goto (tgt := 0) hX dX2_release_64 (by decide) ?_
          exact ih _   hP
def P_X2_release (F : Nat) (w : Wd) (a1 : Nat) (x2 : Int32) : Option (Wd) := (if (gI w a1 5) ≤ 0 then some w else (if (40 : Int32) < (gI w a1 5) then some w else gd (inB ((gI w a1 5) - 1) 40) (bnd (P_X2_rank F w (gI w (a1 + 4) ((gI w a1 5) - 1).toNatClampNeg)) (fun x7 w6 => (if x7 < x2 then some w6 else lt (sI w6 a1 5 ((gI w6 a1 5) - 1)) (fun w9 => gd (inB (gI w9 a1 5) 40) (bnv (P_X2_put F w9 a1 (1010 + (gI w9 (a1 + 4) (gI w9 a1 5).toNatClampNeg))) (fun w11 => L_X2_release_0 F a1 x2 (fun w  => some w) F w11 ))))))))
set_option maxRecDepth 100000 in
set_option maxHeartbeats 4000000 in
theorem s_X2_release {X : Cx} {S : Sx} {r : Wd} {F : Nat} {w : Wd} {a1 : Nat} {x2 : Int32} (ha1 : isX2 a1 = true) (hX : Ok X S cX2_release RX2 2 rm_X2_release) (hR : HRv X S cX2_release r) (hP : P_X2_release F w a1 x2 = some r) : V X S w 0 [(0, rf S a1), (1, .int x2)] [] := by
  unfold P_X2_release at hP
  refine V_aload_n hX dX2_release_0 0 rfl ?_
  refine V_getI hX fk_X2_28 (tb_X2 ha1) (fun _ _ _ => rfl) dX2_release_1 ?_
  refine V_if_le (tgt := 67) hX dX2_release_4 (by decide) (fun hc3 => ?_) (fun hc3 => ?_)
  · replace hP := ite_t hc3 hP
    exact hR _ _ _ (Option.some.inj hP) dX2_release_67
  · replace hP := ite_f hc3 hP
    refine V_aload_n hX dX2_release_7 0 rfl ?_
    refine V_getI hX fk_X2_28 (tb_X2 ha1) (fun _ _ _ => rfl) dX2_release_8 ?_
    refine V_aload_n hX dX2_release_11 0 rfl ?_
    refine V_getF (j := a1 + 4) hX fk_X2_25 (tb_X2 ha1) (fun _ _ _ => rfl) dX2_release_12 ?_
    refine V_alenI (v := 40) hX (tb_X2_4 ha1) (by decide) dX2_release_15 ?_
    refine V_icmp_gt (tgt := 67) hX dX2_release_16 (by decide) (fun hc4 => ?_) (fun hc4 => ?_)
    · replace hP := ite_t hc4 hP
      exact hR _ _ _ (Option.some.inj hP) dX2_release_67
    · replace hP := ite_f hc4 hP
      refine V_aload_n hX dX2_release_19 0 rfl ?_
      refine V_getF (j := a1 + 4) hX fk_X2_25 (tb_X2 ha1) (fun _ _ _ => rfl) dX2_release_20 ?_
      refine V_aload_n hX dX2_release_23 0 rfl ?_
      refine V_getI hX fk_X2_28 (tb_X2 ha1) (fun _ _ _ => rfl) dX2_release_24 ?_
      refine V_iconst (v := 1) hX dX2_release_27 (by decide) ?_
      refine V_isub hX dX2_release_28 ?_
      obtain ⟨hi5, hP⟩ := gd_e hP
      refine V_iald hX (tb_X2_4 ha1) hi5 dX2_release_29 ?_
      obtain ⟨x7, w6, hcw6, hP⟩ := bnd_e hP
      refine V_callSi (As := [.int (gI w (a1 + 4) ((gI w a1 5) - 1).toNatClampNeg)]) (rest := []) hX mk_X2_97 nk_X2_rank (fun l => c_X2_rank l S  hcw6) ⟨rfl, rfl, Nat.le_of_ble_eq_true rfl, Nat.le_of_ble_eq_true rfl⟩ rfl rfl (Nat.le_of_ble_eq_true rfl) dX2_release_30 ?_
      refine V_iload_n hX dX2_release_33 1 rfl ?_
      refine V_icmp_lt (tgt := 67) hX dX2_release_34 (by decide) (fun hc8 => ?_) (fun hc8 => ?_)
      · replace hP := ite_t hc8 hP
        exact hR _ _ _ (Option.some.inj hP) dX2_release_67
      · replace hP := ite_f hc8 hP
        refine V_aload_n hX dX2_release_37 0 rfl ?_
        refine V_dup hX dX2_release_38 rfl ?_
        refine V_getI hX fk_X2_28 (tb_X2 ha1) (fun _ _ _ => rfl) dX2_release_39 ?_
        refine V_iconst (v := 1) hX dX2_release_42 (by decide) ?_
        refine V_isub hX dX2_release_43 ?_
        refine V_putI hX fw_X2_28 (tb_X2 ha1) (fun _ _ _ => ⟨Nat.le_of_ble_eq_true rfl, rfl⟩) dX2_release_44 (fun w9 ew9 => ?_)
        replace hP := lt_r ew9 hP
        refine V_aload_n hX dX2_release_47 0 rfl ?_
        refine V_sipush (v := 1010) hX dX2_release_48 (by decide) ?_
        refine V_aload_n hX dX2_release_51 0 rfl ?_
        refine V_getF (j := a1 + 4) hX fk_X2_25 (tb_X2 ha1) (fun _ _ _ => rfl) dX2_release_52 ?_
        refine V_aload_n hX dX2_release_55 0 rfl ?_
        refine V_getI hX fk_X2_28 (tb_X2 ha1) (fun _ _ _ => rfl) dX2_release_56 ?_
        obtain ⟨hi10, hP⟩ := gd_e hP
        refine V_iald hX (tb_X2_4 ha1) hi10 dX2_release_59 ?_
        refine V_iadd hX dX2_release_60 ?_
        obtain ⟨w11, hcw11, hP⟩ := bnv_e hP
        refine V_callVv (As := [.int (1010 + (gI w9 (a1 + 4) (gI w9 a1 5).toNatClampNeg))]) (rest := []) hX mk_X2_82 nk_X2_put (fun l => c_X2_put l S ha1 hcw11) (tb_X2 ha1) rfl ⟨rfl, rfl, Nat.le_of_ble_eq_true rfl, Nat.le_of_ble_eq_true rfl⟩ rfl rfl (Nat.le_of_ble_eq_true rfl) dX2_release_61 ?_
        refine V_goto (tgt := 0) hX dX2_release_64 (by decide) ?_
        have k21 : ∀ (w : Wd)  , (some w) = some r → V X S w 67 [] [] := by
          intro w   hP
          exact hR _ _ _ (Option.some.inj hP) dX2_release_67
        exact sL_X2_release_0 hX hR ha1 k21 F _   hP
theorem c_X2_release (l : Launch) (S : Sx) {r : Wd} {F : Nat} {w : Wd} {a1 : Nat} {x2 : Int32} (ha1 : isX2 a1 = true) (h : P_X2_release F w a1 x2 = some r) : Met l yX2_release (wsg yX2_release cX2_release 2 none) rm_X2_release (PC S w [rf S a1, .int x2]) (QCv S r) 0 0 (Aw S) :=
  met_v (by decide) rfl (Nat.le_of_ble_eq_true rfl) ⟨rfl, rfl⟩ (fun X hX hR => s_X2_release ha1 hX hR h)

-- MustNotStop$Law.close()Z
abbrev rm_X2_close : Room := { frames := 3, cells := 0, slots := 0, locals := 106 }
theorem nk_X2_close : MNk yX2_close RX2 0 := ⟨rfl, by decide, by decide, by decide +kernel⟩
def P_X2_close (F : Nat) (w : Wd) (a1 : Nat) : Option (Int32 × Wd) := (if (gI w a1 6) ≤ 0 then some (0, w) else (if (0 : Int32) < (gI w a1 5) then bnv (P_X2_release F w a1 1) (fun w4 => lt (sI w4 a1 5 ((gI w4 a1 5) - 1)) (fun w5 => lt (sI w5 a1 7 ((gI w5 a1 7) &&& ((ishlI 1 (gI w5 a1 6)) ^^^ ((-1))))) (fun w6 => lt (sI w6 a1 6 ((gI w6 a1 6) - 1)) (fun w7 => some (1, w7))))) else some (0, w)))
set_option maxRecDepth 100000 in
set_option maxHeartbeats 4000000 in
theorem s_X2_close {X : Cx} {S : Sx} {r : Int32 × Wd} {F : Nat} {w : Wd} {a1 : Nat} (ha1 : isX2 a1 = true) (hX : Ok X S cX2_close RX2 1 rm_X2_close) (hR : HRt X S cX2_close .boolean r) (hP : P_X2_close F w a1 = some r) : V X S w 0 [(0, rf S a1)] [] := by
  unfold P_X2_close at hP
  refine V_aload_n hX dX2_close_0 0 rfl ?_
  refine V_getI hX fk_X2_31 (tb_X2 ha1) (fun _ _ _ => rfl) dX2_close_1 ?_
  refine V_if_le (tgt := 14) hX dX2_close_4 (by decide) (fun hc2 => ?_) (fun hc2 => ?_)
  · replace hP := ite_t hc2 hP
    refine V_iconst (v := 0) hX dX2_close_14 (by decide) ?_
    exact hR _ _ _ _ (Option.some.inj hP) rfl dX2_close_15
  · replace hP := ite_f hc2 hP
    refine V_aload_n hX dX2_close_7 0 rfl ?_
    refine V_getI hX fk_X2_28 (tb_X2 ha1) (fun _ _ _ => rfl) dX2_close_8 ?_
    refine V_if_gt (tgt := 16) hX dX2_close_11 (by decide) (fun hc3 => ?_) (fun hc3 => ?_)
    · replace hP := ite_t hc3 hP
      refine V_aload_n hX dX2_close_16 0 rfl ?_
      refine V_iconst (v := 1) hX dX2_close_17 (by decide) ?_
      obtain ⟨w4, hcw4, hP⟩ := bnv_e hP
      refine V_callVv (As := [.int 1]) (rest := []) hX mk_X2_64 nk_X2_release (fun l => c_X2_release l S ha1 hcw4) (tb_X2 ha1) rfl ⟨rfl, rfl, Nat.le_of_ble_eq_true rfl, Nat.le_of_ble_eq_true rfl⟩ rfl rfl (Nat.le_of_ble_eq_true rfl) dX2_close_18 ?_
      refine V_aload_n hX dX2_close_21 0 rfl ?_
      refine V_dup hX dX2_close_22 rfl ?_
      refine V_getI hX fk_X2_28 (tb_X2 ha1) (fun _ _ _ => rfl) dX2_close_23 ?_
      refine V_iconst (v := 1) hX dX2_close_26 (by decide) ?_
      refine V_isub hX dX2_close_27 ?_
      refine V_putI hX fw_X2_28 (tb_X2 ha1) (fun _ _ _ => ⟨Nat.le_of_ble_eq_true rfl, rfl⟩) dX2_close_28 (fun w5 ew5 => ?_)
      replace hP := lt_r ew5 hP
      refine V_aload_n hX dX2_close_31 0 rfl ?_
      refine V_dup hX dX2_close_32 rfl ?_
      refine V_getI hX fk_X2_34 (tb_X2 ha1) (fun _ _ _ => rfl) dX2_close_33 ?_
      refine V_iconst (v := 1) hX dX2_close_36 (by decide) ?_
      refine V_aload_n hX dX2_close_37 0 rfl ?_
      refine V_getI hX fk_X2_31 (tb_X2 ha1) (fun _ _ _ => rfl) dX2_close_38 ?_
      refine V_ishl hX dX2_close_41 ?_
      refine V_iconst (v := (-1)) hX dX2_close_42 (by decide) ?_
      refine V_ixor hX dX2_close_43 ?_
      refine V_iand hX dX2_close_44 ?_
      refine V_putI hX fw_X2_34 (tb_X2 ha1) (fun _ _ _ => ⟨Nat.le_of_ble_eq_true rfl, rfl⟩) dX2_close_45 (fun w6 ew6 => ?_)
      replace hP := lt_r ew6 hP
      refine V_aload_n hX dX2_close_48 0 rfl ?_
      refine V_dup hX dX2_close_49 rfl ?_
      refine V_getI hX fk_X2_31 (tb_X2 ha1) (fun _ _ _ => rfl) dX2_close_50 ?_
      refine V_iconst (v := 1) hX dX2_close_53 (by decide) ?_
      refine V_isub hX dX2_close_54 ?_
      refine V_putI hX fw_X2_31 (tb_X2 ha1) (fun _ _ _ => ⟨Nat.le_of_ble_eq_true rfl, rfl⟩) dX2_close_55 (fun w7 ew7 => ?_)
      replace hP := lt_r ew7 hP
      refine V_iconst (v := 1) hX dX2_close_58 (by decide) ?_
      exact hR _ _ _ _ (Option.some.inj hP) rfl dX2_close_59
    · replace hP := ite_f hc3 hP
      refine V_iconst (v := 0) hX dX2_close_14 (by decide) ?_
      exact hR _ _ _ _ (Option.some.inj hP) rfl dX2_close_15
theorem c_X2_close (l : Launch) (S : Sx) {r : Int32 × Wd} {F : Nat} {w : Wd} {a1 : Nat} (ha1 : isX2 a1 = true) (h : P_X2_close F w a1 = some r) : Met l yX2_close (wsg yX2_close cX2_close 1 (some .boolean)) rm_X2_close (PC S w [rf S a1]) (QCi S r) 0 0 (Aw S) :=
  met_i (by decide) rfl (Nat.le_of_ble_eq_true rfl) ⟨rfl, rfl⟩ (fun X hX hR => s_X2_close ha1 hX hR h)

-- MustNotStop$Law.hold(I)V
abbrev rm_X2_hold : Room := { frames := 1, cells := 0, slots := 0, locals := 64 }
theorem nk_X2_hold : MNk yX2_hold RX2 1 := ⟨rfl, by decide, by decide, by decide +kernel⟩
def P_X2_hold (F : Nat) (w : Wd) (a1 : Nat) (x2 : Int32) : Option (Wd) := (if (gI w a1 5) < 0 then some w else (if (40 : Int32) ≤ (gI w a1 5) then some w else gd (inB (gI w a1 5) 40) (lt (sI w (a1 + 4) (gI w a1 5).toNatClampNeg x2) (fun w6 => lt (sI w6 a1 5 ((gI w6 a1 5) + 1)) (fun w7 => some w7)))))
set_option maxRecDepth 100000 in
set_option maxHeartbeats 4000000 in
theorem s_X2_hold {X : Cx} {S : Sx} {r : Wd} {F : Nat} {w : Wd} {a1 : Nat} {x2 : Int32} (ha1 : isX2 a1 = true) (hX : Ok X S cX2_hold RX2 2 rm_X2_hold) (hR : HRv X S cX2_hold r) (hP : P_X2_hold F w a1 x2 = some r) : V X S w 0 [(0, rf S a1), (1, .int x2)] [] := by
  unfold P_X2_hold at hP
  refine V_aload_n hX dX2_hold_0 0 rfl ?_
  refine V_getI hX fk_X2_28 (tb_X2 ha1) (fun _ _ _ => rfl) dX2_hold_1 ?_
  refine V_if_lt (tgt := 39) hX dX2_hold_4 (by decide) (fun hc3 => ?_) (fun hc3 => ?_)
  · replace hP := ite_t hc3 hP
    exact hR _ _ _ (Option.some.inj hP) dX2_hold_39
  · replace hP := ite_f hc3 hP
    refine V_aload_n hX dX2_hold_7 0 rfl ?_
    refine V_getI hX fk_X2_28 (tb_X2 ha1) (fun _ _ _ => rfl) dX2_hold_8 ?_
    refine V_aload_n hX dX2_hold_11 0 rfl ?_
    refine V_getF (j := a1 + 4) hX fk_X2_25 (tb_X2 ha1) (fun _ _ _ => rfl) dX2_hold_12 ?_
    refine V_alenI (v := 40) hX (tb_X2_4 ha1) (by decide) dX2_hold_15 ?_
    refine V_icmp_ge (tgt := 39) hX dX2_hold_16 (by decide) (fun hc4 => ?_) (fun hc4 => ?_)
    · replace hP := ite_t hc4 hP
      exact hR _ _ _ (Option.some.inj hP) dX2_hold_39
    · replace hP := ite_f hc4 hP
      refine V_aload_n hX dX2_hold_19 0 rfl ?_
      refine V_getF (j := a1 + 4) hX fk_X2_25 (tb_X2 ha1) (fun _ _ _ => rfl) dX2_hold_20 ?_
      refine V_aload_n hX dX2_hold_23 0 rfl ?_
      refine V_getI hX fk_X2_28 (tb_X2 ha1) (fun _ _ _ => rfl) dX2_hold_24 ?_
      refine V_iload_n hX dX2_hold_27 1 rfl ?_
      obtain ⟨hi5, hP⟩ := gd_e hP
      refine V_iast hX (tb_X2_4 ha1) hi5 dX2_hold_28 (fun w6 ew6 => ?_)
      replace hP := lt_r ew6 hP
      refine V_aload_n hX dX2_hold_29 0 rfl ?_
      refine V_dup hX dX2_hold_30 rfl ?_
      refine V_getI hX fk_X2_28 (tb_X2 ha1) (fun _ _ _ => rfl) dX2_hold_31 ?_
      refine V_iconst (v := 1) hX dX2_hold_34 (by decide) ?_
      refine V_iadd hX dX2_hold_35 ?_
      refine V_putI hX fw_X2_28 (tb_X2 ha1) (fun _ _ _ => ⟨Nat.le_of_ble_eq_true rfl, rfl⟩) dX2_hold_36 (fun w7 ew7 => ?_)
      replace hP := lt_r ew7 hP
      exact hR _ _ _ (Option.some.inj hP) dX2_hold_39
theorem c_X2_hold (l : Launch) (S : Sx) {r : Wd} {F : Nat} {w : Wd} {a1 : Nat} {x2 : Int32} (ha1 : isX2 a1 = true) (h : P_X2_hold F w a1 x2 = some r) : Met l yX2_hold (wsg yX2_hold cX2_hold 2 none) rm_X2_hold (PC S w [rf S a1, .int x2]) (QCv S r) 0 0 (Aw S) :=
  met_v (by decide) rfl (Nat.le_of_ble_eq_true rfl) ⟨rfl, rfl⟩ (fun X hX hR => s_X2_hold ha1 hX hR h)

-- MustNotStop$Law.operate(I)V
abbrev rm_X2_operate : Room := { frames := 3, cells := 0, slots := 0, locals := 106 }
theorem nk_X2_operate : MNk yX2_operate RX2 1 := ⟨rfl, by decide, by decide, by decide +kernel⟩
def P_X2_operate (F : Nat) (w : Wd) (a1 : Nat) (x2 : Int32) : Option (Wd) := bnd (P_X2_rank F w x2) (fun x4 w3 => bnv (P_X2_release F w3 a1 x4) (fun w5 => bnv (P_X2_hold F w5 a1 x2) (fun w6 => lt (sI w6 a1 9 0) (fun w7 => some w7))))
set_option maxRecDepth 100000 in
set_option maxHeartbeats 4000000 in
theorem s_X2_operate {X : Cx} {S : Sx} {r : Wd} {F : Nat} {w : Wd} {a1 : Nat} {x2 : Int32} (ha1 : isX2 a1 = true) (hX : Ok X S cX2_operate RX2 2 rm_X2_operate) (hR : HRv X S cX2_operate r) (hP : P_X2_operate F w a1 x2 = some r) : V X S w 0 [(0, rf S a1), (1, .int x2)] [] := by
  unfold P_X2_operate at hP
  refine V_aload_n hX dX2_operate_0 0 rfl ?_
  refine V_iload_n hX dX2_operate_1 1 rfl ?_
  obtain ⟨x4, w3, hcw3, hP⟩ := bnd_e hP
  refine V_callSi (As := [.int x2]) (rest := [rf S a1]) hX mk_X2_97 nk_X2_rank (fun l => c_X2_rank l S  hcw3) ⟨rfl, rfl, Nat.le_of_ble_eq_true rfl, Nat.le_of_ble_eq_true rfl⟩ rfl rfl (Nat.le_of_ble_eq_true rfl) dX2_operate_2 ?_
  obtain ⟨w5, hcw5, hP⟩ := bnv_e hP
  refine V_callVv (As := [.int x4]) (rest := []) hX mk_X2_64 nk_X2_release (fun l => c_X2_release l S ha1 hcw5) (tb_X2 ha1) rfl ⟨rfl, rfl, Nat.le_of_ble_eq_true rfl, Nat.le_of_ble_eq_true rfl⟩ rfl rfl (Nat.le_of_ble_eq_true rfl) dX2_operate_5 ?_
  refine V_aload_n hX dX2_operate_8 0 rfl ?_
  refine V_iload_n hX dX2_operate_9 1 rfl ?_
  obtain ⟨w6, hcw6, hP⟩ := bnv_e hP
  refine V_callVv (As := [.int x2]) (rest := []) hX mk_X2_68 nk_X2_hold (fun l => c_X2_hold l S ha1 hcw6) (tb_X2 ha1) rfl ⟨rfl, rfl, Nat.le_of_ble_eq_true rfl, Nat.le_of_ble_eq_true rfl⟩ rfl rfl (Nat.le_of_ble_eq_true rfl) dX2_operate_10 ?_
  refine V_aload_n hX dX2_operate_13 0 rfl ?_
  refine V_iconst (v := 0) hX dX2_operate_14 (by decide) ?_
  refine V_putZ hX fw_X2_40 (tb_X2 ha1) (by decide) (fun _ _ _ => ⟨Nat.le_of_ble_eq_true rfl, rfl⟩) dX2_operate_15 (fun w7 ew7 => ?_)
  replace hP := lt_r ew7 hP
  exact hR _ _ _ (Option.some.inj hP) dX2_operate_18
theorem c_X2_operate (l : Launch) (S : Sx) {r : Wd} {F : Nat} {w : Wd} {a1 : Nat} {x2 : Int32} (ha1 : isX2 a1 = true) (h : P_X2_operate F w a1 x2 = some r) : Met l yX2_operate (wsg yX2_operate cX2_operate 2 none) rm_X2_operate (PC S w [rf S a1, .int x2]) (QCv S r) 0 0 (Aw S) :=
  met_v (by decide) rfl (Nat.le_of_ble_eq_true rfl) ⟨rfl, rfl⟩ (fun X hX hR => s_X2_operate ha1 hX hR h)

-- MustNotStop$Law.compare(I)Z
abbrev rm_X2_compare : Room := { frames := 4, cells := 0, slots := 0, locals := 127 }
theorem nk_X2_compare : MNk yX2_compare RX2 1 := ⟨rfl, by decide, by decide, by decide +kernel⟩
def P_X2_compare (F : Nat) (w : Wd) (a1 : Nat) (x2 : Int32) : Option (Int32 × Wd) := (if ((ishrI (gI w a1 7) (gI w a1 6)) &&& 1) = 0 then lt (sI w a1 7 ((gI w a1 7) ||| (ishlI 1 (gI w a1 6)))) (fun w4 => bnv (P_X2_operate F w4 a1 x2) (fun w5 => some (1, w5))) else some (0, w))
set_option maxRecDepth 100000 in
set_option maxHeartbeats 4000000 in
theorem s_X2_compare {X : Cx} {S : Sx} {r : Int32 × Wd} {F : Nat} {w : Wd} {a1 : Nat} {x2 : Int32} (ha1 : isX2 a1 = true) (hX : Ok X S cX2_compare RX2 2 rm_X2_compare) (hR : HRt X S cX2_compare .boolean r) (hP : P_X2_compare F w a1 x2 = some r) : V X S w 0 [(0, rf S a1), (1, .int x2)] [] := by
  unfold P_X2_compare at hP
  refine V_aload_n hX dX2_compare_0 0 rfl ?_
  refine V_getI hX fk_X2_34 (tb_X2 ha1) (fun _ _ _ => rfl) dX2_compare_1 ?_
  refine V_aload_n hX dX2_compare_4 0 rfl ?_
  refine V_getI hX fk_X2_31 (tb_X2 ha1) (fun _ _ _ => rfl) dX2_compare_5 ?_
  refine V_ishr hX dX2_compare_8 ?_
  refine V_iconst (v := 1) hX dX2_compare_9 (by decide) ?_
  refine V_iand hX dX2_compare_10 ?_
  refine V_if_eq (tgt := 16) hX dX2_compare_11 (by decide) (fun hc3 => ?_) (fun hc3 => ?_)
  · replace hP := ite_t hc3 hP
    refine V_aload_n hX dX2_compare_16 0 rfl ?_
    refine V_dup hX dX2_compare_17 rfl ?_
    refine V_getI hX fk_X2_34 (tb_X2 ha1) (fun _ _ _ => rfl) dX2_compare_18 ?_
    refine V_iconst (v := 1) hX dX2_compare_21 (by decide) ?_
    refine V_aload_n hX dX2_compare_22 0 rfl ?_
    refine V_getI hX fk_X2_31 (tb_X2 ha1) (fun _ _ _ => rfl) dX2_compare_23 ?_
    refine V_ishl hX dX2_compare_26 ?_
    refine V_ior hX dX2_compare_27 ?_
    refine V_putI hX fw_X2_34 (tb_X2 ha1) (fun _ _ _ => ⟨Nat.le_of_ble_eq_true rfl, rfl⟩) dX2_compare_28 (fun w4 ew4 => ?_)
    replace hP := lt_r ew4 hP
    refine V_aload_n hX dX2_compare_31 0 rfl ?_
    refine V_iload_n hX dX2_compare_32 1 rfl ?_
    obtain ⟨w5, hcw5, hP⟩ := bnv_e hP
    refine V_callVv (As := [.int x2]) (rest := []) hX mk_X2_94 nk_X2_operate (fun l => c_X2_operate l S ha1 hcw5) (tb_X2 ha1) rfl ⟨rfl, rfl, Nat.le_of_ble_eq_true rfl, Nat.le_of_ble_eq_true rfl⟩ rfl rfl (Nat.le_of_ble_eq_true rfl) dX2_compare_33 ?_
    refine V_iconst (v := 1) hX dX2_compare_36 (by decide) ?_
    exact hR _ _ _ _ (Option.some.inj hP) rfl dX2_compare_37
  · replace hP := ite_f hc3 hP
    refine V_iconst (v := 0) hX dX2_compare_14 (by decide) ?_
    exact hR _ _ _ _ (Option.some.inj hP) rfl dX2_compare_15
theorem c_X2_compare (l : Launch) (S : Sx) {r : Int32 × Wd} {F : Nat} {w : Wd} {a1 : Nat} {x2 : Int32} (ha1 : isX2 a1 = true) (h : P_X2_compare F w a1 x2 = some r) : Met l yX2_compare (wsg yX2_compare cX2_compare 2 (some .boolean)) rm_X2_compare (PC S w [rf S a1, .int x2]) (QCi S r) 0 0 (Aw S) :=
  met_i (by decide) rfl (Nat.le_of_ble_eq_true rfl) ⟨rfl, rfl⟩ (fun X hX hR => s_X2_compare ha1 hX hR h)

-- MustNotStop$Law.goOn(I)Z
abbrev rm_X2_goOn : Room := { frames := 5, cells := 0, slots := 0, locals := 148 }
theorem nk_X2_goOn : MNk yX2_goOn RX2 1 := ⟨rfl, by decide, by decide, by decide +kernel⟩
def K_X2_goOn_139 (F : Nat) (a1 : Nat) (x2 : Int32)  (w : Wd)  : Option (Int32 × Wd) := bnv (P_X2_operate F w a1 x2) (fun w10 => some (1, w10))
set_option maxRecDepth 100000 in
set_option maxHeartbeats 4000000 in
theorem sK_X2_goOn_139 {X : Cx} {S : Sx} {r : Int32 × Wd} {F : Nat} {a1 : Nat} {x2 : Int32}  {w : Wd}  (hX : Ok X S cX2_goOn RX2 2 rm_X2_goOn) (hR : HRt X S cX2_goOn .boolean r) (ha1 : isX2 a1 = true)   (hP : K_X2_goOn_139 F a1 x2  w  = some r) : V X S w 139 [(0, rf S a1), (1, .int x2)] [] := by
  unfold K_X2_goOn_139 at hP
  refine V_aload_n hX dX2_goOn_139 0 rfl ?_
  refine V_iload_n hX dX2_goOn_140 1 rfl ?_
  obtain ⟨w10, hcw10, hP⟩ := bnv_e hP
  refine V_callVv (As := [.int x2]) (rest := []) hX mk_X2_94 nk_X2_operate (fun l => c_X2_operate l S ha1 hcw10) (tb_X2 ha1) rfl ⟨rfl, rfl, Nat.le_of_ble_eq_true rfl, Nat.le_of_ble_eq_true rfl⟩ rfl rfl (Nat.le_of_ble_eq_true rfl) dX2_goOn_141 ?_
  refine V_iconst (v := 1) hX dX2_goOn_144 (by decide) ?_
  exact hR _ _ _ _ (Option.some.inj hP) rfl dX2_goOn_145
def K_X2_goOn_133 (F : Nat) (a1 : Nat) (x2 : Int32)  (w : Wd)  : Option (Int32 × Wd) := bnd (P_X2_compare F w a1 x2) (fun x30 w29 => gd (isZO x30) (some (x30, w29)))
set_option maxRecDepth 100000 in
set_option maxHeartbeats 4000000 in
theorem sK_X2_goOn_133 {X : Cx} {S : Sx} {r : Int32 × Wd} {F : Nat} {a1 : Nat} {x2 : Int32}  {w : Wd}  (hX : Ok X S cX2_goOn RX2 2 rm_X2_goOn) (hR : HRt X S cX2_goOn .boolean r) (ha1 : isX2 a1 = true)   (hP : K_X2_goOn_133 F a1 x2  w  = some r) : V X S w 133 [(0, rf S a1), (1, .int x2)] [] := by
  unfold K_X2_goOn_133 at hP
  refine V_aload_n hX dX2_goOn_133 0 rfl ?_
  refine V_iload_n hX dX2_goOn_134 1 rfl ?_
  obtain ⟨x30, w29, hcw29, hP⟩ := bnd_e hP
  refine V_callVi (As := [.int x2]) (rest := []) hX mk_X2_91 nk_X2_compare (fun l => c_X2_compare l S ha1 hcw29) (tb_X2 ha1) rfl ⟨rfl, rfl, Nat.le_of_ble_eq_true rfl, Nat.le_of_ble_eq_true rfl⟩ rfl rfl (Nat.le_of_ble_eq_true rfl) dX2_goOn_135 ?_
  obtain ⟨hz31, hP⟩ := gd_e hP
  exact hR _ _ _ _ (Option.some.inj hP) (nar_z hz31) dX2_goOn_138
def K_X2_goOn_21 (F : Nat) (a1 : Nat) (x2 : Int32)  (w : Wd)  : Option (Int32 × Wd) := lt (sI w a1 8 0) (fun w4 => (if x2 = 41 then bnd (P_X2_close F w4 a1) (fun x7 w6 => gd (isZO x7) (some (x7, w6))) else (if x2 = 42 then K_X2_goOn_139 F a1 x2  w4  else (if x2 = 43 then K_X2_goOn_139 F a1 x2  w4  else (if x2 = 44 then some (0, w4) else (if x2 = 45 then K_X2_goOn_139 F a1 x2  w4  else (if x2 = 46 then some (0, w4) else (if x2 = 47 then K_X2_goOn_139 F a1 x2  w4  else (if x2 = 48 then some (0, w4) else (if x2 = 49 then some (0, w4) else (if x2 = 50 then some (0, w4) else (if x2 = 51 then some (0, w4) else (if x2 = 52 then some (0, w4) else (if x2 = 53 then some (0, w4) else (if x2 = 54 then some (0, w4) else (if x2 = 55 then some (0, w4) else (if x2 = 56 then some (0, w4) else (if x2 = 57 then some (0, w4) else (if x2 = 58 then some (0, w4) else (if x2 = 59 then some (0, w4) else (if x2 = 60 then K_X2_goOn_133 F a1 x2  w4  else (if x2 = 61 then K_X2_goOn_133 F a1 x2  w4  else (if x2 = 62 then K_X2_goOn_133 F a1 x2  w4  else some (0, w4))))))))))))))))))))))))
set_option maxRecDepth 100000 in
set_option maxHeartbeats 4000000 in
theorem sK_X2_goOn_21 {X : Cx} {S : Sx} {r : Int32 × Wd} {F : Nat} {a1 : Nat} {x2 : Int32}  {w : Wd}  (hX : Ok X S cX2_goOn RX2 2 rm_X2_goOn) (hR : HRt X S cX2_goOn .boolean r) (ha1 : isX2 a1 = true)   (hP : K_X2_goOn_21 F a1 x2  w  = some r) : V X S w 21 [(0, rf S a1), (1, .int x2)] [] := by
  unfold K_X2_goOn_21 at hP
  refine V_aload_n hX dX2_goOn_21 0 rfl ?_
  refine V_iconst (v := 0) hX dX2_goOn_22 (by decide) ?_
  refine V_putI hX fw_X2_37 (tb_X2 ha1) (fun _ _ _ => ⟨Nat.le_of_ble_eq_true rfl, rfl⟩) dX2_goOn_23 (fun w4 ew4 => ?_)
  replace hP := lt_r ew4 hP
  refine V_iload_n hX dX2_goOn_26 1 rfl ?_
  by_cases hc5 : x2 = 41
  · replace hP := ite_t hc5 hP
    refine V_tableIn (tgt := 128) hX dX2_goOn_27 (by rw [hc5]; decide) (by rw [hc5]; decide) (by rw [hc5] <;> rfl) (by decide) ?_
    refine V_aload_n hX dX2_goOn_128 0 rfl ?_
    obtain ⟨x7, w6, hcw6, hP⟩ := bnd_e hP
    refine V_callVi (As := []) (rest := []) hX mk_X2_88 nk_X2_close (fun l => c_X2_close l S ha1 hcw6) (tb_X2 ha1) rfl ⟨rfl, rfl, Nat.le_of_ble_eq_true rfl, Nat.le_of_ble_eq_true rfl⟩ rfl rfl (Nat.le_of_ble_eq_true rfl) dX2_goOn_129 ?_
    obtain ⟨hz8, hP⟩ := gd_e hP
    exact hR _ _ _ _ (Option.some.inj hP) (nar_z hz8) dX2_goOn_132
  replace hP := ite_f hc5 hP
  by_cases hc9 : x2 = 42
  · replace hP := ite_t hc9 hP
    refine V_tableIn (tgt := 139) hX dX2_goOn_27 (by rw [hc9]; decide) (by rw [hc9]; decide) (by rw [hc9] <;> rfl) (by decide) ?_
    exact sK_X2_goOn_139 hX hR ha1   hP
  replace hP := ite_f hc9 hP
  by_cases hc11 : x2 = 43
  · replace hP := ite_t hc11 hP
    refine V_tableIn (tgt := 139) hX dX2_goOn_27 (by rw [hc11]; decide) (by rw [hc11]; decide) (by rw [hc11] <;> rfl) (by decide) ?_
    exact sK_X2_goOn_139 hX hR ha1   hP
  replace hP := ite_f hc11 hP
  by_cases hc12 : x2 = 44
  · replace hP := ite_t hc12 hP
    refine V_tableIn (tgt := 146) hX dX2_goOn_27 (by rw [hc12]; decide) (by rw [hc12]; decide) (by rw [hc12] <;> rfl) (by decide) ?_
    refine V_iconst (v := 0) hX dX2_goOn_146 (by decide) ?_
    exact hR _ _ _ _ (Option.some.inj hP) rfl dX2_goOn_147
  replace hP := ite_f hc12 hP
  by_cases hc13 : x2 = 45
  · replace hP := ite_t hc13 hP
    refine V_tableIn (tgt := 139) hX dX2_goOn_27 (by rw [hc13]; decide) (by rw [hc13]; decide) (by rw [hc13] <;> rfl) (by decide) ?_
    exact sK_X2_goOn_139 hX hR ha1   hP
  replace hP := ite_f hc13 hP
  by_cases hc14 : x2 = 46
  · replace hP := ite_t hc14 hP
    refine V_tableIn (tgt := 146) hX dX2_goOn_27 (by rw [hc14]; decide) (by rw [hc14]; decide) (by rw [hc14] <;> rfl) (by decide) ?_
    refine V_iconst (v := 0) hX dX2_goOn_146 (by decide) ?_
    exact hR _ _ _ _ (Option.some.inj hP) rfl dX2_goOn_147
  replace hP := ite_f hc14 hP
  by_cases hc15 : x2 = 47
  · replace hP := ite_t hc15 hP
    refine V_tableIn (tgt := 139) hX dX2_goOn_27 (by rw [hc15]; decide) (by rw [hc15]; decide) (by rw [hc15] <;> rfl) (by decide) ?_
    exact sK_X2_goOn_139 hX hR ha1   hP
  replace hP := ite_f hc15 hP
  by_cases hc16 : x2 = 48
  · replace hP := ite_t hc16 hP
    refine V_tableIn (tgt := 146) hX dX2_goOn_27 (by rw [hc16]; decide) (by rw [hc16]; decide) (by rw [hc16] <;> rfl) (by decide) ?_
    refine V_iconst (v := 0) hX dX2_goOn_146 (by decide) ?_
    exact hR _ _ _ _ (Option.some.inj hP) rfl dX2_goOn_147
  replace hP := ite_f hc16 hP
  by_cases hc17 : x2 = 49
  · replace hP := ite_t hc17 hP
    refine V_tableIn (tgt := 146) hX dX2_goOn_27 (by rw [hc17]; decide) (by rw [hc17]; decide) (by rw [hc17] <;> rfl) (by decide) ?_
    refine V_iconst (v := 0) hX dX2_goOn_146 (by decide) ?_
    exact hR _ _ _ _ (Option.some.inj hP) rfl dX2_goOn_147
  replace hP := ite_f hc17 hP
  by_cases hc18 : x2 = 50
  · replace hP := ite_t hc18 hP
    refine V_tableIn (tgt := 146) hX dX2_goOn_27 (by rw [hc18]; decide) (by rw [hc18]; decide) (by rw [hc18] <;> rfl) (by decide) ?_
    refine V_iconst (v := 0) hX dX2_goOn_146 (by decide) ?_
    exact hR _ _ _ _ (Option.some.inj hP) rfl dX2_goOn_147
  replace hP := ite_f hc18 hP
  by_cases hc19 : x2 = 51
  · replace hP := ite_t hc19 hP
    refine V_tableIn (tgt := 146) hX dX2_goOn_27 (by rw [hc19]; decide) (by rw [hc19]; decide) (by rw [hc19] <;> rfl) (by decide) ?_
    refine V_iconst (v := 0) hX dX2_goOn_146 (by decide) ?_
    exact hR _ _ _ _ (Option.some.inj hP) rfl dX2_goOn_147
  replace hP := ite_f hc19 hP
  by_cases hc20 : x2 = 52
  · replace hP := ite_t hc20 hP
    refine V_tableIn (tgt := 146) hX dX2_goOn_27 (by rw [hc20]; decide) (by rw [hc20]; decide) (by rw [hc20] <;> rfl) (by decide) ?_
    refine V_iconst (v := 0) hX dX2_goOn_146 (by decide) ?_
    exact hR _ _ _ _ (Option.some.inj hP) rfl dX2_goOn_147
  replace hP := ite_f hc20 hP
  by_cases hc21 : x2 = 53
  · replace hP := ite_t hc21 hP
    refine V_tableIn (tgt := 146) hX dX2_goOn_27 (by rw [hc21]; decide) (by rw [hc21]; decide) (by rw [hc21] <;> rfl) (by decide) ?_
    refine V_iconst (v := 0) hX dX2_goOn_146 (by decide) ?_
    exact hR _ _ _ _ (Option.some.inj hP) rfl dX2_goOn_147
  replace hP := ite_f hc21 hP
  by_cases hc22 : x2 = 54
  · replace hP := ite_t hc22 hP
    refine V_tableIn (tgt := 146) hX dX2_goOn_27 (by rw [hc22]; decide) (by rw [hc22]; decide) (by rw [hc22] <;> rfl) (by decide) ?_
    refine V_iconst (v := 0) hX dX2_goOn_146 (by decide) ?_
    exact hR _ _ _ _ (Option.some.inj hP) rfl dX2_goOn_147
  replace hP := ite_f hc22 hP
  by_cases hc23 : x2 = 55
  · replace hP := ite_t hc23 hP
    refine V_tableIn (tgt := 146) hX dX2_goOn_27 (by rw [hc23]; decide) (by rw [hc23]; decide) (by rw [hc23] <;> rfl) (by decide) ?_
    refine V_iconst (v := 0) hX dX2_goOn_146 (by decide) ?_
    exact hR _ _ _ _ (Option.some.inj hP) rfl dX2_goOn_147
  replace hP := ite_f hc23 hP
  by_cases hc24 : x2 = 56
  · replace hP := ite_t hc24 hP
    refine V_tableIn (tgt := 146) hX dX2_goOn_27 (by rw [hc24]; decide) (by rw [hc24]; decide) (by rw [hc24] <;> rfl) (by decide) ?_
    refine V_iconst (v := 0) hX dX2_goOn_146 (by decide) ?_
    exact hR _ _ _ _ (Option.some.inj hP) rfl dX2_goOn_147
  replace hP := ite_f hc24 hP
  by_cases hc25 : x2 = 57
  · replace hP := ite_t hc25 hP
    refine V_tableIn (tgt := 146) hX dX2_goOn_27 (by rw [hc25]; decide) (by rw [hc25]; decide) (by rw [hc25] <;> rfl) (by decide) ?_
    refine V_iconst (v := 0) hX dX2_goOn_146 (by decide) ?_
    exact hR _ _ _ _ (Option.some.inj hP) rfl dX2_goOn_147
  replace hP := ite_f hc25 hP
  by_cases hc26 : x2 = 58
  · replace hP := ite_t hc26 hP
    refine V_tableIn (tgt := 146) hX dX2_goOn_27 (by rw [hc26]; decide) (by rw [hc26]; decide) (by rw [hc26] <;> rfl) (by decide) ?_
    refine V_iconst (v := 0) hX dX2_goOn_146 (by decide) ?_
    exact hR _ _ _ _ (Option.some.inj hP) rfl dX2_goOn_147
  replace hP := ite_f hc26 hP
  by_cases hc27 : x2 = 59
  · replace hP := ite_t hc27 hP
    refine V_tableIn (tgt := 146) hX dX2_goOn_27 (by rw [hc27]; decide) (by rw [hc27]; decide) (by rw [hc27] <;> rfl) (by decide) ?_
    refine V_iconst (v := 0) hX dX2_goOn_146 (by decide) ?_
    exact hR _ _ _ _ (Option.some.inj hP) rfl dX2_goOn_147
  replace hP := ite_f hc27 hP
  by_cases hc28 : x2 = 60
  · replace hP := ite_t hc28 hP
    refine V_tableIn (tgt := 133) hX dX2_goOn_27 (by rw [hc28]; decide) (by rw [hc28]; decide) (by rw [hc28] <;> rfl) (by decide) ?_
    exact sK_X2_goOn_133 hX hR ha1   hP
  replace hP := ite_f hc28 hP
  by_cases hc32 : x2 = 61
  · replace hP := ite_t hc32 hP
    refine V_tableIn (tgt := 133) hX dX2_goOn_27 (by rw [hc32]; decide) (by rw [hc32]; decide) (by rw [hc32] <;> rfl) (by decide) ?_
    exact sK_X2_goOn_133 hX hR ha1   hP
  replace hP := ite_f hc32 hP
  by_cases hc33 : x2 = 62
  · replace hP := ite_t hc33 hP
    refine V_tableIn (tgt := 133) hX dX2_goOn_27 (by rw [hc33]; decide) (by rw [hc33]; decide) (by rw [hc33] <;> rfl) (by decide) ?_
    exact sK_X2_goOn_133 hX hR ha1   hP
  replace hP := ite_f hc33 hP
  refine V_tableOut (tgt := 146) hX dX2_goOn_27 (ts_out (fun k h1 h2 => by
      have hk : k = 41 ∨ k = 42 ∨ k = 43 ∨ k = 44 ∨ k = 45 ∨ k = 46 ∨ k = 47 ∨ k = 48 ∨ k = 49 ∨ k = 50 ∨ k = 51 ∨ k = 52 ∨ k = 53 ∨ k = 54 ∨ k = 55 ∨ k = 56 ∨ k = 57 ∨ k = 58 ∨ k = 59 ∨ k = 60 ∨ k = 61 ∨ k = 62 := by omega
      rcases hk with rfl | rfl | rfl | rfl | rfl | rfl | rfl | rfl | rfl | rfl | rfl | rfl | rfl | rfl | rfl | rfl | rfl | rfl | rfl | rfl | rfl | rfl
      · exact fun e => hc5 (by rw [e]; rfl)
      · exact fun e => hc9 (by rw [e]; rfl)
      · exact fun e => hc11 (by rw [e]; rfl)
      · exact fun e => hc12 (by rw [e]; rfl)
      · exact fun e => hc13 (by rw [e]; rfl)
      · exact fun e => hc14 (by rw [e]; rfl)
      · exact fun e => hc15 (by rw [e]; rfl)
      · exact fun e => hc16 (by rw [e]; rfl)
      · exact fun e => hc17 (by rw [e]; rfl)
      · exact fun e => hc18 (by rw [e]; rfl)
      · exact fun e => hc19 (by rw [e]; rfl)
      · exact fun e => hc20 (by rw [e]; rfl)
      · exact fun e => hc21 (by rw [e]; rfl)
      · exact fun e => hc22 (by rw [e]; rfl)
      · exact fun e => hc23 (by rw [e]; rfl)
      · exact fun e => hc24 (by rw [e]; rfl)
      · exact fun e => hc25 (by rw [e]; rfl)
      · exact fun e => hc26 (by rw [e]; rfl)
      · exact fun e => hc27 (by rw [e]; rfl)
      · exact fun e => hc28 (by rw [e]; rfl)
      · exact fun e => hc32 (by rw [e]; rfl)
      · exact fun e => hc33 (by rw [e]; rfl)
      )) (by decide) ?_
  refine V_iconst (v := 0) hX dX2_goOn_146 (by decide) ?_
  exact hR _ _ _ _ (Option.some.inj hP) rfl dX2_goOn_147
def P_X2_goOn (F : Nat) (w : Wd) (a1 : Nat) (x2 : Int32) : Option (Int32 × Wd) := (if x2 < 48 then K_X2_goOn_21 F a1 x2  w  else (if (57 : Int32) < x2 then K_X2_goOn_21 F a1 x2  w  else bnd (P_X2_lengthen F w a1 (x2 - 48)) (fun x36 w35 => gd (isZO x36) (some (x36, w35)))))
set_option maxRecDepth 100000 in
set_option maxHeartbeats 4000000 in
theorem s_X2_goOn {X : Cx} {S : Sx} {r : Int32 × Wd} {F : Nat} {w : Wd} {a1 : Nat} {x2 : Int32} (ha1 : isX2 a1 = true) (hX : Ok X S cX2_goOn RX2 2 rm_X2_goOn) (hR : HRt X S cX2_goOn .boolean r) (hP : P_X2_goOn F w a1 x2 = some r) : V X S w 0 [(0, rf S a1), (1, .int x2)] [] := by
  unfold P_X2_goOn at hP
  refine V_iload_n hX dX2_goOn_0 1 rfl ?_
  refine V_bipush (v := 48) hX dX2_goOn_1 (by decide) ?_
  refine V_icmp_lt (tgt := 21) hX dX2_goOn_3 (by decide) (fun hc3 => ?_) (fun hc3 => ?_)
  · replace hP := ite_t hc3 hP
    exact sK_X2_goOn_21 hX hR ha1   hP
  · replace hP := ite_f hc3 hP
    refine V_iload_n hX dX2_goOn_6 1 rfl ?_
    refine V_bipush (v := 57) hX dX2_goOn_7 (by decide) ?_
    refine V_icmp_gt (tgt := 21) hX dX2_goOn_9 (by decide) (fun hc34 => ?_) (fun hc34 => ?_)
    · replace hP := ite_t hc34 hP
      exact sK_X2_goOn_21 hX hR ha1   hP
    · replace hP := ite_f hc34 hP
      refine V_aload_n hX dX2_goOn_12 0 rfl ?_
      refine V_iload_n hX dX2_goOn_13 1 rfl ?_
      refine V_bipush (v := 48) hX dX2_goOn_14 (by decide) ?_
      refine V_isub hX dX2_goOn_16 ?_
      obtain ⟨x36, w35, hcw35, hP⟩ := bnd_e hP
      refine V_callVi (As := [.int (x2 - 48)]) (rest := []) hX mk_X2_85 nk_X2_lengthen (fun l => c_X2_lengthen l S ha1 hcw35) (tb_X2 ha1) rfl ⟨rfl, rfl, Nat.le_of_ble_eq_true rfl, Nat.le_of_ble_eq_true rfl⟩ rfl rfl (Nat.le_of_ble_eq_true rfl) dX2_goOn_17 ?_
      obtain ⟨hz37, hP⟩ := gd_e hP
      exact hR _ _ _ _ (Option.some.inj hP) (nar_z hz37) dX2_goOn_20
theorem c_X2_goOn (l : Launch) (S : Sx) {r : Int32 × Wd} {F : Nat} {w : Wd} {a1 : Nat} {x2 : Int32} (ha1 : isX2 a1 = true) (h : P_X2_goOn F w a1 x2 = some r) : Met l yX2_goOn (wsg yX2_goOn cX2_goOn 2 (some .boolean)) rm_X2_goOn (PC S w [rf S a1, .int x2]) (QCi S r) 0 0 (Aw S) :=
  met_i (by decide) rfl (Nat.le_of_ble_eq_true rfl) ⟨rfl, rfl⟩ (fun X hX hR => s_X2_goOn ha1 hX hR h)

-- MustNotStop$Law.open()Z
abbrev rm_X2_open : Room := { frames := 2, cells := 0, slots := 0, locals := 85 }
theorem nk_X2_open : MNk yX2_open RX2 0 := ⟨rfl, by decide, by decide, by decide +kernel⟩
def P_X2_open (F : Nat) (w : Wd) (a1 : Nat) : Option (Int32 × Wd) := (if (gI w a1 6) < 4 then lt (sI w a1 6 ((gI w a1 6) + 1)) (fun w3 => bnv (P_X2_hold F w3 a1 40) (fun w4 => some (1, w4))) else some (0, w))
set_option maxRecDepth 100000 in
set_option maxHeartbeats 4000000 in
theorem s_X2_open {X : Cx} {S : Sx} {r : Int32 × Wd} {F : Nat} {w : Wd} {a1 : Nat} (ha1 : isX2 a1 = true) (hX : Ok X S cX2_open RX2 1 rm_X2_open) (hR : HRt X S cX2_open .boolean r) (hP : P_X2_open F w a1 = some r) : V X S w 0 [(0, rf S a1)] [] := by
  unfold P_X2_open at hP
  refine V_aload_n hX dX2_open_0 0 rfl ?_
  refine V_getI hX fk_X2_31 (tb_X2 ha1) (fun _ _ _ => rfl) dX2_open_1 ?_
  refine V_iconst (v := 4) hX dX2_open_4 (by decide) ?_
  refine V_icmp_lt (tgt := 10) hX dX2_open_5 (by decide) (fun hc2 => ?_) (fun hc2 => ?_)
  · replace hP := ite_t hc2 hP
    refine V_aload_n hX dX2_open_10 0 rfl ?_
    refine V_dup hX dX2_open_11 rfl ?_
    refine V_getI hX fk_X2_31 (tb_X2 ha1) (fun _ _ _ => rfl) dX2_open_12 ?_
    refine V_iconst (v := 1) hX dX2_open_15 (by decide) ?_
    refine V_iadd hX dX2_open_16 ?_
    refine V_putI hX fw_X2_31 (tb_X2 ha1) (fun _ _ _ => ⟨Nat.le_of_ble_eq_true rfl, rfl⟩) dX2_open_17 (fun w3 ew3 => ?_)
    replace hP := lt_r ew3 hP
    refine V_aload_n hX dX2_open_20 0 rfl ?_
    refine V_bipush (v := 40) hX dX2_open_21 (by decide) ?_
    obtain ⟨w4, hcw4, hP⟩ := bnv_e hP
    refine V_callVv (As := [.int 40]) (rest := []) hX mk_X2_68 nk_X2_hold (fun l => c_X2_hold l S ha1 hcw4) (tb_X2 ha1) rfl ⟨rfl, rfl, Nat.le_of_ble_eq_true rfl, Nat.le_of_ble_eq_true rfl⟩ rfl rfl (Nat.le_of_ble_eq_true rfl) dX2_open_23 ?_
    refine V_iconst (v := 1) hX dX2_open_26 (by decide) ?_
    exact hR _ _ _ _ (Option.some.inj hP) rfl dX2_open_27
  · replace hP := ite_f hc2 hP
    refine V_iconst (v := 0) hX dX2_open_8 (by decide) ?_
    exact hR _ _ _ _ (Option.some.inj hP) rfl dX2_open_9
theorem c_X2_open (l : Launch) (S : Sx) {r : Int32 × Wd} {F : Nat} {w : Wd} {a1 : Nat} (ha1 : isX2 a1 = true) (h : P_X2_open F w a1 = some r) : Met l yX2_open (wsg yX2_open cX2_open 1 (some .boolean)) rm_X2_open (PC S w [rf S a1]) (QCi S r) 0 0 (Aw S) :=
  met_i (by decide) rfl (Nat.le_of_ble_eq_true rfl) ⟨rfl, rfl⟩ (fun X hX hR => s_X2_open ha1 hX hR h)

-- java/lang/String.isLatin1()Z
abbrev rm_J0_isLatin1_aae02 : Room := { frames := 1, cells := 0, slots := 0, locals := 64 }
theorem nk_J0_isLatin1_aae02 : MNk yJ0_isLatin1_aae02 RJ0 0 := ⟨rfl, by decide, by decide, by decide +kernel⟩
def P_J0_isLatin1_aae02 (F : Nat) (w : Wd) (a1 : Nat) : Option (Int32 × Wd) := (if (1 : Int32) = 0 then some (0, w) else lt (if (0 : Int32) = 0 then 1 else 0 : Int32) (fun x4 => gd (isZO x4) (some (x4, w))))
set_option maxRecDepth 100000 in
set_option maxHeartbeats 4000000 in
theorem s_J0_isLatin1_aae02 {X : Cx} {S : Sx} {r : Int32 × Wd} {F : Nat} {w : Wd} {a1 : Nat} (ha1 : isStr a1 = true) (hX : Ok X S cJ0_isLatin1_aae02 RJ0 1 rm_J0_isLatin1_aae02) (hR : HRt X S cJ0_isLatin1_aae02 .boolean r) (hP : P_J0_isLatin1_aae02 F w a1 = some r) : V X S w 0 [(0, .ref (adK S a1))] [] := by
  unfold P_J0_isLatin1_aae02 at hP
  refine V_getsC hX dJ0_isLatin1_aae02_0 ?_
  refine V_if_eq (tgt := 17) hX dJ0_isLatin1_aae02_3 (by decide) (fun hc2 => ?_) (fun hc2 => ?_)
  · replace hP := ite_t hc2 hP
    refine V_iconst (v := 0) hX dJ0_isLatin1_aae02_17 (by decide) ?_
    exact hR _ _ _ _ (Option.some.inj hP) rfl dJ0_isLatin1_aae02_18
  · replace hP := ite_f hc2 hP
    refine V_aload_n hX dJ0_isLatin1_aae02_6 0 rfl ?_
    refine V_strCod hX ha1 dJ0_isLatin1_aae02_7 ?_
    have k6 : V X S w 18 [(0, .ref (adK S a1))] [.int (if (0 : Int32) = 0 then 1 else 0)] := by
      refine V_topi (fun x4 ex4 => ?_)
      replace hP := lt_r ex4 hP
      obtain ⟨hz5, hP⟩ := gd_e hP
      exact hR _ _ _ _ (Option.some.inj hP) (nar_z hz5) dJ0_isLatin1_aae02_18
    refine V_if_ne (tgt := 17) hX dJ0_isLatin1_aae02_10 (by decide) (fun hc3 => ?_) (fun hc3 => ?_)
    · refine V_iconst (v := 0) hX dJ0_isLatin1_aae02_17 (by decide) ?_
      refine V_selF (c := (0 : Int32) = 0) (a := 1) hc3 ?_
      exact k6
    · refine V_iconst (v := 1) hX dJ0_isLatin1_aae02_13 (by decide) ?_
      refine V_goto (tgt := 18) hX dJ0_isLatin1_aae02_14 (by decide) ?_
      refine V_selT (c := (0 : Int32) = 0) (b := 0) hc3 ?_
      exact k6
theorem c_J0_isLatin1_aae02 (l : Launch) (S : Sx) {r : Int32 × Wd} {F : Nat} {w : Wd} {a1 : Nat} (ha1 : isStr a1 = true) (h : P_J0_isLatin1_aae02 F w a1 = some r) : Met l yJ0_isLatin1_aae02 (wsg yJ0_isLatin1_aae02 cJ0_isLatin1_aae02 1 (some .boolean)) rm_J0_isLatin1_aae02 (PC S w [.ref (adK S a1)]) (QCi S r) 0 0 (Aw S) :=
  met_i (by decide) rfl (Nat.le_of_ble_eq_true rfl) ⟨rfl, rfl⟩ (fun X hX hR => s_J0_isLatin1_aae02 ha1 hX hR h)

-- java/lang/String.coder()B
abbrev rm_J0_coder_7d493 : Room := { frames := 1, cells := 0, slots := 0, locals := 64 }
theorem nk_J0_coder_7d493 : MNk yJ0_coder_7d493 RJ0 0 := ⟨rfl, by decide, by decide, by decide +kernel⟩
def P_J0_coder_7d493 (F : Nat) (w : Wd) (a1 : Nat) : Option (Int32 × Wd) := (if (1 : Int32) = 0 then gd (isByt 1) (some (1, w)) else gd (isByt 0) (some (0, w)))
set_option maxRecDepth 100000 in
set_option maxHeartbeats 4000000 in
theorem s_J0_coder_7d493 {X : Cx} {S : Sx} {r : Int32 × Wd} {F : Nat} {w : Wd} {a1 : Nat} (ha1 : isStr a1 = true) (hX : Ok X S cJ0_coder_7d493 RJ0 1 rm_J0_coder_7d493) (hR : HRt X S cJ0_coder_7d493 .byte r) (hP : P_J0_coder_7d493 F w a1 = some r) : V X S w 0 [(0, .ref (adK S a1))] [] := by
  unfold P_J0_coder_7d493 at hP
  refine V_getsC hX dJ0_coder_7d493_0 ?_
  refine V_if_eq (tgt := 13) hX dJ0_coder_7d493_3 (by decide) (fun hc2 => ?_) (fun hc2 => ?_)
  · replace hP := ite_t hc2 hP
    refine V_iconst (v := 1) hX dJ0_coder_7d493_13 (by decide) ?_
    obtain ⟨hz3, hP⟩ := gd_e hP
    exact hR _ _ _ _ (Option.some.inj hP) (nar_b hz3) dJ0_coder_7d493_14
  · replace hP := ite_f hc2 hP
    refine V_aload_n hX dJ0_coder_7d493_6 0 rfl ?_
    refine V_strCod hX ha1 dJ0_coder_7d493_7 ?_
    refine V_goto (tgt := 14) hX dJ0_coder_7d493_10 (by decide) ?_
    obtain ⟨hz4, hP⟩ := gd_e hP
    exact hR _ _ _ _ (Option.some.inj hP) (nar_b hz4) dJ0_coder_7d493_14
theorem c_J0_coder_7d493 (l : Launch) (S : Sx) {r : Int32 × Wd} {F : Nat} {w : Wd} {a1 : Nat} (ha1 : isStr a1 = true) (h : P_J0_coder_7d493 F w a1 = some r) : Met l yJ0_coder_7d493 (wsg yJ0_coder_7d493 cJ0_coder_7d493 1 (some .byte)) rm_J0_coder_7d493 (PC S w [.ref (adK S a1)]) (QCi S r) 0 0 (Aw S) :=
  met_i (by decide) rfl (Nat.le_of_ble_eq_true rfl) ⟨rfl, rfl⟩ (fun X hX hR => s_J0_coder_7d493 ha1 hX hR h)

-- java/lang/String.length()I
abbrev rm_J0_length_8abf5 : Room := { frames := 2, cells := 0, slots := 0, locals := 84 }
theorem nk_J0_length_8abf5 : MNk yJ0_length_8abf5 RJ0 0 := ⟨rfl, by decide, by decide, by decide +kernel⟩
def P_J0_length_8abf5 (F : Nat) (w : Wd) (a1 : Nat) : Option (Int32 × Wd) := bnd (P_J0_coder_7d493 F w a1) (fun x3 w2 => some (ishrI (nI (strL a1)) x3, w2))
set_option maxRecDepth 100000 in
set_option maxHeartbeats 4000000 in
theorem s_J0_length_8abf5 {X : Cx} {S : Sx} {r : Int32 × Wd} {F : Nat} {w : Wd} {a1 : Nat} (ha1 : isStr a1 = true) (hX : Ok X S cJ0_length_8abf5 RJ0 1 rm_J0_length_8abf5) (hR : HRt X S cJ0_length_8abf5 .int r) (hP : P_J0_length_8abf5 F w a1 = some r) : V X S w 0 [(0, .ref (adK S a1))] [] := by
  unfold P_J0_length_8abf5 at hP
  refine V_aload_n hX dJ0_length_8abf5_0 0 rfl ?_
  refine V_strVal hX ha1 dJ0_length_8abf5_1 ?_
  refine V_strLen hX ha1 dJ0_length_8abf5_4 ?_
  refine V_aload_n hX dJ0_length_8abf5_5 0 rfl ?_
  obtain ⟨x3, w2, hcw2, hP⟩ := bnd_e hP
  refine V_callTi (As := []) (rest := [.int (nI (strL a1))]) hX mk_J0_335 nk_J0_coder_7d493 (fun l => c_J0_coder_7d493 l S ha1 hcw2) ha1 ⟨rfl, rfl, Nat.le_of_ble_eq_true rfl, Nat.le_of_ble_eq_true rfl⟩ rfl rfl (Nat.le_of_ble_eq_true rfl) dJ0_length_8abf5_6 ?_
  refine V_ishr hX dJ0_length_8abf5_9 ?_
  exact hR _ _ _ _ (Option.some.inj hP) rfl dJ0_length_8abf5_10
theorem c_J0_length_8abf5 (l : Launch) (S : Sx) {r : Int32 × Wd} {F : Nat} {w : Wd} {a1 : Nat} (ha1 : isStr a1 = true) (h : P_J0_length_8abf5 F w a1 = some r) : Met l yJ0_length_8abf5 (wsg yJ0_length_8abf5 cJ0_length_8abf5 1 (some .int)) rm_J0_length_8abf5 (PC S w [.ref (adK S a1)]) (QCi S r) 0 0 (Aw S) :=
  met_i (by decide) rfl (Nat.le_of_ble_eq_true rfl) ⟨rfl, rfl⟩ (fun X hX hR => s_J0_length_8abf5 ha1 hX hR h)

-- java/lang/StringLatin1.canEncode(I)Z
abbrev rm_J1_canEncode_9a6ad : Room := { frames := 1, cells := 0, slots := 0, locals := 64 }
theorem nk_J1_canEncode_9a6ad : MNk yJ1_canEncode_9a6ad RJ1 1 := ⟨rfl, by decide, by decide, by decide +kernel⟩
def P_J1_canEncode_9a6ad (F : Nat) (w : Wd) (x1 : Int32) : Option (Int32 × Wd) := lt (if x1 < 0 then 0 else if (255 : Int32) < x1 then 0 else 1 : Int32) (fun x4 => gd (isZO x4) (some (x4, w)))
set_option maxRecDepth 100000 in
set_option maxHeartbeats 4000000 in
theorem s_J1_canEncode_9a6ad {X : Cx} {S : Sx} {r : Int32 × Wd} {F : Nat} {w : Wd} {x1 : Int32}  (hX : Ok X S cJ1_canEncode_9a6ad RJ1 1 rm_J1_canEncode_9a6ad) (hR : HRt X S cJ1_canEncode_9a6ad .boolean r) (hP : P_J1_canEncode_9a6ad F w x1 = some r) : V X S w 0 [(0, .int x1)] [] := by
  unfold P_J1_canEncode_9a6ad at hP
  refine V_iload_n hX dJ1_canEncode_9a6ad_0 0 rfl ?_
  have k6 : V X S w 16 [(0, .int x1)] [.int (if x1 < 0 then 0 else if (255 : Int32) < x1 then 0 else 1)] := by
    refine V_topi (fun x4 ex4 => ?_)
    replace hP := lt_r ex4 hP
    obtain ⟨hz5, hP⟩ := gd_e hP
    exact hR _ _ _ _ (Option.some.inj hP) (nar_z hz5) dJ1_canEncode_9a6ad_16
  refine V_if_lt (tgt := 15) hX dJ1_canEncode_9a6ad_1 (by decide) (fun hc3 => ?_) (fun hc3 => ?_)
  · refine V_iconst (v := 0) hX dJ1_canEncode_9a6ad_15 (by decide) ?_
    refine V_selT (c := x1 < 0) (b := if (255 : Int32) < x1 then 0 else 1) hc3 ?_
    exact k6
  · refine V_iload_n hX dJ1_canEncode_9a6ad_4 0 rfl ?_
    refine V_sipush (v := 255) hX dJ1_canEncode_9a6ad_5 (by decide) ?_
    refine V_icmp_gt (tgt := 15) hX dJ1_canEncode_9a6ad_8 (by decide) (fun hc2 => ?_) (fun hc2 => ?_)
    · refine V_iconst (v := 0) hX dJ1_canEncode_9a6ad_15 (by decide) ?_
      refine V_selT (c := (255 : Int32) < x1) (b := 1) hc2 ?_
      refine V_selF (c := x1 < 0) (a := 0) hc3 ?_
      exact k6
    · refine V_iconst (v := 1) hX dJ1_canEncode_9a6ad_11 (by decide) ?_
      refine V_goto (tgt := 16) hX dJ1_canEncode_9a6ad_12 (by decide) ?_
      refine V_selF (c := (255 : Int32) < x1) (a := 0) hc2 ?_
      refine V_selF (c := x1 < 0) (a := 0) hc3 ?_
      exact k6
theorem c_J1_canEncode_9a6ad (l : Launch) (S : Sx) {r : Int32 × Wd} {F : Nat} {w : Wd} {x1 : Int32}  (h : P_J1_canEncode_9a6ad F w x1 = some r) : Met l yJ1_canEncode_9a6ad (wsg yJ1_canEncode_9a6ad cJ1_canEncode_9a6ad 1 (some .boolean)) rm_J1_canEncode_9a6ad (PC S w [.int x1]) (QCi S r) 0 0 (Aw S) :=
  met_i (by decide) rfl (Nat.le_of_ble_eq_true rfl) ⟨rfl, rfl⟩ (fun X hX hR => s_J1_canEncode_9a6ad  hX hR h)

-- java/lang/StringLatin1.indexOfChar([BIII)I
abbrev rm_J1_indexOfChar_4cfef : Room := { frames := 1, cells := 0, slots := 0, locals := 64 }
theorem nk_J1_indexOfChar_4cfef : MNk yJ1_indexOfChar_4cfef RJ1 4 := ⟨rfl, by decide, by decide, by decide +kernel⟩
def L_J1_indexOfChar_4cfef_7 (F : Nat) (a1 : Nat) (x2 : Int32) (x3 : Int32) (x4 : Int32) (x6 : Int32) (k31 : Wd → Option (Int32 × Wd)) : Nat → Wd → Int32 → Option (Int32 × Wd)
  | 0, _, _ => none
  | n + 1, w, x7 => (if x4 ≤ x7 then k31 w  else gd (inB x7 (strL a1)) ((if (strB a1 x7.toNatClampNeg) = x6 then some (x7, w) else lt (x7 + 1 : Int32) (fun x11 => L_J1_indexOfChar_4cfef_7 F a1 x2 x3 x4 x6 k31 n w x11))))
set_option maxRecDepth 100000 in
set_option maxHeartbeats 4000000 in
theorem sL_J1_indexOfChar_4cfef_7 {X : Cx} {S : Sx} {r : Int32 × Wd} {F : Nat} {a1 : Nat} {x2 : Int32} {x3 : Int32} {x4 : Int32} {x6 : Int32} {k31 : Wd → Option (Int32 × Wd)} (hX : Ok X S cJ1_indexOfChar_4cfef RJ1 6 rm_J1_indexOfChar_4cfef) (hR : HRt X S cJ1_indexOfChar_4cfef .int r) (ha1 : isStr a1 = true) (hk31 : ∀ (w : Wd), k31 w = some r → V X S w 31 [] []) : ∀ (n : Nat) (w : Wd) (x7 : Int32) , L_J1_indexOfChar_4cfef_7 F a1 x2 x3 x4 x6 k31 n w x7 = some r → V X S w 7 [(0, .ref (adV S a1)), (3, .int x4), (4, .int x6), (5, .int x7), (1, .int x2), (2, .int x3)] [] := by
  intro n
  induction n with
  | zero =>
    intro w x7  hP
    exact nn hP
  | succ n ih =>
    intro w x7  hP
    rw [L_J1_indexOfChar_4cfef_7] at hP
    refine V_iload hX dJ1_indexOfChar_4cfef_7 3 rfl ?_
    refine V_iload_n hX dJ1_indexOfChar_4cfef_9 1 rfl ?_
    refine V_icmp_ge (tgt := 31) hX dJ1_indexOfChar_4cfef_10 (by decide) (fun hc8 => ?_) (fun hc8 => ?_)
    · replace hP := ite_t hc8 hP
      refine V_sub (lv' := []) [] rfl ?_
      exact hk31 _   hP
    · replace hP := ite_f hc8 hP
      refine V_aload_n hX dJ1_indexOfChar_4cfef_13 0 rfl ?_
      refine V_iload hX dJ1_indexOfChar_4cfef_14 3 rfl ?_
      obtain ⟨hi9, hP⟩ := gd_e hP
      refine V_strByte hX ha1 hi9 dJ1_indexOfChar_4cfef_16 ?_
      refine V_iload hX dJ1_indexOfChar_4cfef_17 2 rfl ?_
      refine V_icmp_ne (tgt := 25) hX dJ1_indexOfChar_4cfef_19 (by decide) (fun hc10 => ?_) (fun hc10 => ?_)
      · replace hP := ite_f hc10 hP
        obtain ⟨x11, ex11⟩ : ∃ y : Int32, y = x7 + 1 := ⟨_, rfl⟩
        replace hP := lt_r ex11 hP
        refine V_iinc (v := x11) (lv' := [(5, .int x11), (0, .ref (adV S a1)), (3, .int x4), (4, .int x6), (1, .int x2), (2, .int x3)]) hX dJ1_indexOfChar_4cfef_25 (j := 3) rfl (by decide) (by rw [ex11]; rfl) rfl ?_
        refine V_goto (tgt := 7) hX dJ1_indexOfChar_4cfef_28 (by decide) ?_
        refine V_sub (lv' := [(0, .ref (adV S a1)), (3, .int x4), (4, .int x6), (5, .int x11), (1, .int x2), (2, .int x3)]) [1, 2, 3, 0, 4, 5] rfl ?_
        exact ih _ _  hP
      · replace hP := ite_t hc10 hP
        refine V_iload hX dJ1_indexOfChar_4cfef_22 3 rfl ?_
        exact hR _ _ _ _ (Option.some.inj hP) rfl dJ1_indexOfChar_4cfef_24
def P_J1_indexOfChar_4cfef (F : Nat) (w : Wd) (a1 : Nat) (x2 : Int32) (x3 : Int32) (x4 : Int32) : Option (Int32 × Wd) := lt (i2bI x2 : Int32) (fun x5 => L_J1_indexOfChar_4cfef_7 F a1 x2 x3 x4 x5 (fun w  => some ((-1), w)) F w x3)
set_option maxRecDepth 100000 in
set_option maxHeartbeats 4000000 in
theorem s_J1_indexOfChar_4cfef {X : Cx} {S : Sx} {r : Int32 × Wd} {F : Nat} {w : Wd} {a1 : Nat} {x2 : Int32} {x3 : Int32} {x4 : Int32} (ha1 : isStr a1 = true) (hX : Ok X S cJ1_indexOfChar_4cfef RJ1 6 rm_J1_indexOfChar_4cfef) (hR : HRt X S cJ1_indexOfChar_4cfef .int r) (hP : P_J1_indexOfChar_4cfef F w a1 x2 x3 x4 = some r) : V X S w 0 [(0, .ref (adV S a1)), (1, .int x2), (2, .int x3), (3, .int x4)] [] := by
  unfold P_J1_indexOfChar_4cfef at hP
  refine V_iload_n hX dJ1_indexOfChar_4cfef_0 1 rfl ?_
  refine V_i2b hX dJ1_indexOfChar_4cfef_1 ?_
  refine V_topi (fun x5 ex5 => ?_)
  replace hP := lt_r ex5 hP
  refine V_istore (lv' := [(4, .int x5), (0, .ref (adV S a1)), (1, .int x2), (2, .int x3), (3, .int x4)]) hX dJ1_indexOfChar_4cfef_2 (by decide) rfl ?_
  refine V_iload_n hX dJ1_indexOfChar_4cfef_4 3 rfl ?_
  refine V_istore (lv' := [(5, .int x3), (4, .int x5), (0, .ref (adV S a1)), (1, .int x2), (2, .int x3), (3, .int x4)]) hX dJ1_indexOfChar_4cfef_5 (by decide) rfl ?_
  refine V_sub (lv' := [(0, .ref (adV S a1)), (3, .int x4), (4, .int x5), (5, .int x3), (1, .int x2), (2, .int x3)]) [2, 5, 1, 0, 3, 4] rfl ?_
  have k12 : ∀ (w : Wd)  , (some ((-1), w)) = some r → V X S w 31 [] [] := by
    intro w   hP
    refine V_iconst (v := (-1)) hX dJ1_indexOfChar_4cfef_31 (by decide) ?_
    exact hR _ _ _ _ (Option.some.inj hP) rfl dJ1_indexOfChar_4cfef_32
  exact sL_J1_indexOfChar_4cfef_7 hX hR ha1 k12 F _ _  hP
theorem c_J1_indexOfChar_4cfef (l : Launch) (S : Sx) {r : Int32 × Wd} {F : Nat} {w : Wd} {a1 : Nat} {x2 : Int32} {x3 : Int32} {x4 : Int32} (ha1 : isStr a1 = true) (h : P_J1_indexOfChar_4cfef F w a1 x2 x3 x4 = some r) : Met l yJ1_indexOfChar_4cfef (wsg yJ1_indexOfChar_4cfef cJ1_indexOfChar_4cfef 6 (some .int)) rm_J1_indexOfChar_4cfef (PC S w [.ref (adV S a1), .int x2, .int x3, .int x4]) (QCi S r) 0 0 (Aw S) :=
  met_i (by decide) rfl (Nat.le_of_ble_eq_true rfl) ⟨rfl, rfl⟩ (fun X hX hR => s_J1_indexOfChar_4cfef ha1 hX hR h)

-- java/lang/StringLatin1.indexOf([BIII)I
abbrev rm_J1_indexOf_4cfef : Room := { frames := 2, cells := 0, slots := 0, locals := 89 }
theorem nk_J1_indexOf_4cfef : MNk yJ1_indexOf_4cfef RJ1 4 := ⟨rfl, by decide, by decide, by decide +kernel⟩
def P_J1_indexOf_4cfef (F : Nat) (w : Wd) (a1 : Nat) (x2 : Int32) (x3 : Int32) (x4 : Int32) : Option (Int32 × Wd) := bnd (P_J1_canEncode_9a6ad F w x2) (fun x6 w5 => (if x6 = 0 then some ((-1), w5) else lt (maxI x3 0 : Int32) (fun x8 => lt (minI x4 (nI (strL a1)) : Int32) (fun x9 => (if x8 < x9 then bnd (P_J1_indexOfChar_4cfef F w5 a1 x2 x8 x9) (fun x12 w11 => some (x12, w11)) else some ((-1), w5))))))
set_option maxRecDepth 100000 in
set_option maxHeartbeats 4000000 in
theorem s_J1_indexOf_4cfef {X : Cx} {S : Sx} {r : Int32 × Wd} {F : Nat} {w : Wd} {a1 : Nat} {x2 : Int32} {x3 : Int32} {x4 : Int32} (ha1 : isStr a1 = true) (hX : Ok X S cJ1_indexOf_4cfef RJ1 4 rm_J1_indexOf_4cfef) (hR : HRt X S cJ1_indexOf_4cfef .int r) (hP : P_J1_indexOf_4cfef F w a1 x2 x3 x4 = some r) : V X S w 0 [(0, .ref (adV S a1)), (1, .int x2), (2, .int x3), (3, .int x4)] [] := by
  unfold P_J1_indexOf_4cfef at hP
  refine V_iload_n hX dJ1_indexOf_4cfef_0 1 rfl ?_
  obtain ⟨x6, w5, hcw5, hP⟩ := bnd_e hP
  refine V_callSi (As := [.int x2]) (rest := []) hX mk_J1_88 nk_J1_canEncode_9a6ad (fun l => c_J1_canEncode_9a6ad l S  hcw5) ⟨rfl, rfl, Nat.le_of_ble_eq_true rfl, Nat.le_of_ble_eq_true rfl⟩ rfl rfl (Nat.le_of_ble_eq_true rfl) dJ1_indexOf_4cfef_1 ?_
  refine V_if_ne (tgt := 9) hX dJ1_indexOf_4cfef_4 (by decide) (fun hc7 => ?_) (fun hc7 => ?_)
  · replace hP := ite_f hc7 hP
    refine V_iload_n hX dJ1_indexOf_4cfef_9 2 rfl ?_
    refine V_iconst (v := 0) hX dJ1_indexOf_4cfef_10 (by decide) ?_
    refine V_max hX mk_J1_92 ⟨Nat.le_of_ble_eq_true rfl, Nat.le_of_ble_eq_true rfl⟩ dJ1_indexOf_4cfef_11 ?_
    refine V_topi (fun x8 ex8 => ?_)
    replace hP := lt_r ex8 hP
    refine V_istore_n (lv' := [(2, .int x8), (0, .ref (adV S a1)), (1, .int x2), (3, .int x4)]) hX dJ1_indexOf_4cfef_14 (by decide) rfl ?_
    refine V_iload_n hX dJ1_indexOf_4cfef_15 3 rfl ?_
    refine V_aload_n hX dJ1_indexOf_4cfef_16 1 rfl ?_
    refine V_strLen hX ha1 dJ1_indexOf_4cfef_17 ?_
    refine V_min hX mk_J1_38 ⟨Nat.le_of_ble_eq_true rfl, Nat.le_of_ble_eq_true rfl⟩ dJ1_indexOf_4cfef_18 ?_
    refine V_topi (fun x9 ex9 => ?_)
    replace hP := lt_r ex9 hP
    refine V_istore_n (lv' := [(3, .int x9), (2, .int x8), (0, .ref (adV S a1)), (1, .int x2)]) hX dJ1_indexOf_4cfef_21 (by decide) rfl ?_
    refine V_iload_n hX dJ1_indexOf_4cfef_22 1 rfl ?_
    refine V_iload_n hX dJ1_indexOf_4cfef_23 0 rfl ?_
    refine V_icmp_lt (tgt := 29) hX dJ1_indexOf_4cfef_24 (by decide) (fun hc10 => ?_) (fun hc10 => ?_)
    · replace hP := ite_t hc10 hP
      refine V_aload_n hX dJ1_indexOf_4cfef_29 2 rfl ?_
      refine V_iload_n hX dJ1_indexOf_4cfef_30 3 rfl ?_
      refine V_iload_n hX dJ1_indexOf_4cfef_31 1 rfl ?_
      refine V_iload_n hX dJ1_indexOf_4cfef_32 0 rfl ?_
      obtain ⟨x12, w11, hcw11, hP⟩ := bnd_e hP
      refine V_callSi (As := [.ref (adV S a1), .int x2, .int x8, .int x9]) (rest := []) hX mk_J1_95 nk_J1_indexOfChar_4cfef (fun l => c_J1_indexOfChar_4cfef l S ha1 hcw11) ⟨rfl, rfl, Nat.le_of_ble_eq_true rfl, Nat.le_of_ble_eq_true rfl⟩ rfl rfl (Nat.le_of_ble_eq_true rfl) dJ1_indexOf_4cfef_33 ?_
      exact hR _ _ _ _ (Option.some.inj hP) rfl dJ1_indexOf_4cfef_36
    · replace hP := ite_f hc10 hP
      refine V_iconst (v := (-1)) hX dJ1_indexOf_4cfef_27 (by decide) ?_
      exact hR _ _ _ _ (Option.some.inj hP) rfl dJ1_indexOf_4cfef_28
  · replace hP := ite_t hc7 hP
    refine V_iconst (v := (-1)) hX dJ1_indexOf_4cfef_7 (by decide) ?_
    exact hR _ _ _ _ (Option.some.inj hP) rfl dJ1_indexOf_4cfef_8
theorem c_J1_indexOf_4cfef (l : Launch) (S : Sx) {r : Int32 × Wd} {F : Nat} {w : Wd} {a1 : Nat} {x2 : Int32} {x3 : Int32} {x4 : Int32} (ha1 : isStr a1 = true) (h : P_J1_indexOf_4cfef F w a1 x2 x3 x4 = some r) : Met l yJ1_indexOf_4cfef (wsg yJ1_indexOf_4cfef cJ1_indexOf_4cfef 4 (some .int)) rm_J1_indexOf_4cfef (PC S w [.ref (adV S a1), .int x2, .int x3, .int x4]) (QCi S r) 0 0 (Aw S) :=
  met_i (by decide) rfl (Nat.le_of_ble_eq_true rfl) ⟨rfl, rfl⟩ (fun X hX hR => s_J1_indexOf_4cfef ha1 hX hR h)

-- java/lang/String.indexOf(II)I
abbrev rm_J0_indexOf_7cf53 : Room := { frames := 3, cells := 0, slots := 0, locals := 112 }
theorem nk_J0_indexOf_7cf53 : MNk yJ0_indexOf_7cf53 RJ0 2 := ⟨rfl, by decide, by decide, by decide +kernel⟩
def P_J0_indexOf_7cf53 (F : Nat) (w : Wd) (a1 : Nat) (x2 : Int32) (x3 : Int32) : Option (Int32 × Wd) := bnd (P_J0_isLatin1_aae02 F w a1) (fun x5 w4 => (if x5 = 0 then none else bnd (P_J0_length_8abf5 F w4 a1) (fun x12 w11 => bnd (P_J1_indexOf_4cfef F w11 a1 x2 x3 x12) (fun x14 w13 => some (x14, w13)))))
set_option maxRecDepth 100000 in
set_option maxHeartbeats 4000000 in
theorem s_J0_indexOf_7cf53 {X : Cx} {S : Sx} {r : Int32 × Wd} {F : Nat} {w : Wd} {a1 : Nat} {x2 : Int32} {x3 : Int32} (ha1 : isStr a1 = true) (hX : Ok X S cJ0_indexOf_7cf53 RJ0 3 rm_J0_indexOf_7cf53) (hR : HRt X S cJ0_indexOf_7cf53 .int r) (hP : P_J0_indexOf_7cf53 F w a1 x2 x3 = some r) : V X S w 0 [(0, .ref (adK S a1)), (1, .int x2), (2, .int x3)] [] := by
  unfold P_J0_indexOf_7cf53 at hP
  refine V_aload_n hX dJ0_indexOf_7cf53_0 0 rfl ?_
  obtain ⟨x5, w4, hcw4, hP⟩ := bnd_e hP
  refine V_callTi (As := []) (rest := []) hX mk_J0_492 nk_J0_isLatin1_aae02 (fun l => c_J0_isLatin1_aae02 l S ha1 hcw4) ha1 ⟨rfl, rfl, Nat.le_of_ble_eq_true rfl, Nat.le_of_ble_eq_true rfl⟩ rfl rfl (Nat.le_of_ble_eq_true rfl) dJ0_indexOf_7cf53_1 ?_
  refine V_if_eq (tgt := 23) hX dJ0_indexOf_7cf53_4 (by decide) (fun hc6 => ?_) (fun hc6 => ?_)
  · replace hP := ite_t hc6 hP
    exact nn hP
  · replace hP := ite_f hc6 hP
    refine V_aload_n hX dJ0_indexOf_7cf53_7 0 rfl ?_
    refine V_strVal hX ha1 dJ0_indexOf_7cf53_8 ?_
    refine V_iload_n hX dJ0_indexOf_7cf53_11 1 rfl ?_
    refine V_iload_n hX dJ0_indexOf_7cf53_12 2 rfl ?_
    refine V_aload_n hX dJ0_indexOf_7cf53_13 0 rfl ?_
    obtain ⟨x12, w11, hcw11, hP⟩ := bnd_e hP
    refine V_callTi (As := []) (rest := [.int x3, .int x2, .ref (adV S a1)]) hX mk_J0_505 nk_J0_length_8abf5 (fun l => c_J0_length_8abf5 l S ha1 hcw11) ha1 ⟨rfl, rfl, Nat.le_of_ble_eq_true rfl, Nat.le_of_ble_eq_true rfl⟩ rfl rfl (Nat.le_of_ble_eq_true rfl) dJ0_indexOf_7cf53_14 ?_
    obtain ⟨x14, w13, hcw13, hP⟩ := bnd_e hP
    refine V_callSi (As := [.ref (adV S a1), .int x2, .int x3, .int x12]) (rest := []) hX mk_J0_637 nk_J1_indexOf_4cfef (fun l => c_J1_indexOf_4cfef l S ha1 hcw13) ⟨rfl, rfl, Nat.le_of_ble_eq_true rfl, Nat.le_of_ble_eq_true rfl⟩ rfl rfl (Nat.le_of_ble_eq_true rfl) dJ0_indexOf_7cf53_17 ?_
    refine V_goto (tgt := 36) hX dJ0_indexOf_7cf53_20 (by decide) ?_
    exact hR _ _ _ _ (Option.some.inj hP) rfl dJ0_indexOf_7cf53_36
theorem c_J0_indexOf_7cf53 (l : Launch) (S : Sx) {r : Int32 × Wd} {F : Nat} {w : Wd} {a1 : Nat} {x2 : Int32} {x3 : Int32} (ha1 : isStr a1 = true) (h : P_J0_indexOf_7cf53 F w a1 x2 x3 = some r) : Met l yJ0_indexOf_7cf53 (wsg yJ0_indexOf_7cf53 cJ0_indexOf_7cf53 3 (some .int)) rm_J0_indexOf_7cf53 (PC S w [.ref (adK S a1), .int x2, .int x3]) (QCi S r) 0 0 (Aw S) :=
  met_i (by decide) rfl (Nat.le_of_ble_eq_true rfl) ⟨rfl, rfl⟩ (fun X hX hR => s_J0_indexOf_7cf53 ha1 hX hR h)

-- java/lang/String.indexOf(I)I
abbrev rm_J0_indexOf_0f7a4 : Room := { frames := 4, cells := 0, slots := 0, locals := 134 }
theorem nk_J0_indexOf_0f7a4 : MNk yJ0_indexOf_0f7a4 RJ0 1 := ⟨rfl, by decide, by decide, by decide +kernel⟩
def P_J0_indexOf_0f7a4 (F : Nat) (w : Wd) (a1 : Nat) (x2 : Int32) : Option (Int32 × Wd) := bnd (P_J0_indexOf_7cf53 F w a1 x2 0) (fun x4 w3 => some (x4, w3))
set_option maxRecDepth 100000 in
set_option maxHeartbeats 4000000 in
theorem s_J0_indexOf_0f7a4 {X : Cx} {S : Sx} {r : Int32 × Wd} {F : Nat} {w : Wd} {a1 : Nat} {x2 : Int32} (ha1 : isStr a1 = true) (hX : Ok X S cJ0_indexOf_0f7a4 RJ0 2 rm_J0_indexOf_0f7a4) (hR : HRt X S cJ0_indexOf_0f7a4 .int r) (hP : P_J0_indexOf_0f7a4 F w a1 x2 = some r) : V X S w 0 [(0, .ref (adK S a1)), (1, .int x2)] [] := by
  unfold P_J0_indexOf_0f7a4 at hP
  refine V_aload_n hX dJ0_indexOf_0f7a4_0 0 rfl ?_
  refine V_iload_n hX dJ0_indexOf_0f7a4_1 1 rfl ?_
  refine V_iconst (v := 0) hX dJ0_indexOf_0f7a4_2 (by decide) ?_
  obtain ⟨x4, w3, hcw3, hP⟩ := bnd_e hP
  refine V_callTi (As := [.int x2, .int 0]) (rest := []) hX mk_J0_633 nk_J0_indexOf_7cf53 (fun l => c_J0_indexOf_7cf53 l S ha1 hcw3) ha1 ⟨rfl, rfl, Nat.le_of_ble_eq_true rfl, Nat.le_of_ble_eq_true rfl⟩ rfl rfl (Nat.le_of_ble_eq_true rfl) dJ0_indexOf_0f7a4_3 ?_
  exact hR _ _ _ _ (Option.some.inj hP) rfl dJ0_indexOf_0f7a4_6
theorem c_J0_indexOf_0f7a4 (l : Launch) (S : Sx) {r : Int32 × Wd} {F : Nat} {w : Wd} {a1 : Nat} {x2 : Int32} (ha1 : isStr a1 = true) (h : P_J0_indexOf_0f7a4 F w a1 x2 = some r) : Met l yJ0_indexOf_0f7a4 (wsg yJ0_indexOf_0f7a4 cJ0_indexOf_0f7a4 2 (some .int)) rm_J0_indexOf_0f7a4 (PC S w [.ref (adK S a1), .int x2]) (QCi S r) 0 0 (Aw S) :=
  met_i (by decide) rfl (Nat.le_of_ble_eq_true rfl) ⟨rfl, rfl⟩ (fun X hX hR => s_J0_indexOf_0f7a4 ha1 hX hR h)

-- MustNotStop$Law.begin(I)Z
abbrev rm_X2_begin : Room := { frames := 5, cells := 0, slots := 0, locals := 155 }
theorem nk_X2_begin : MNk yX2_begin RX2 1 := ⟨rfl, by decide, by decide, by decide +kernel⟩
def K_X2_begin_61 (F : Nat) (a1 : Nat) (x2 : Int32)  (w : Wd) (x11 : Int32) (x12 : Int32) : Option (Int32 × Wd) := lt (if x12 = 0 then 1000 + x11 else x2 - 48 : Int32) (fun x14 => bnv (P_X2_put F w a1 x14) (fun w15 => lt (if x12 = 0 then 0 else 1 : Int32) (fun x17 => lt (sI w15 a1 8 x17) (fun w18 => lt (sI w18 a1 9 1) (fun w19 => some (1, w19))))))
set_option maxRecDepth 100000 in
set_option maxHeartbeats 4000000 in
theorem sK_X2_begin_61 {X : Cx} {S : Sx} {r : Int32 × Wd} {F : Nat} {a1 : Nat} {x2 : Int32}  {w : Wd} {x11 : Int32} {x12 : Int32} (hX : Ok X S cX2_begin RX2 4 rm_X2_begin) (hR : HRt X S cX2_begin .boolean r) (ha1 : isX2 a1 = true)   (hP : K_X2_begin_61 F a1 x2  w x11 x12 = some r) : V X S w 61 [(0, rf S a1), (1, .int x2), (2, .int x11), (3, .int x12)] [] := by
  unfold K_X2_begin_61 at hP
  refine V_aload_n hX dX2_begin_61 0 rfl ?_
  refine V_iload_n hX dX2_begin_62 3 rfl ?_
  have k21 : V X S w 78 [(0, rf S a1), (1, .int x2), (2, .int x11), (3, .int x12)] [.int (if x12 = 0 then 1000 + x11 else x2 - 48), rf S a1] := by
    refine V_topi (fun x14 ex14 => ?_)
    replace hP := lt_r ex14 hP
    obtain ⟨w15, hcw15, hP⟩ := bnv_e hP
    refine V_callVv (As := [.int x14]) (rest := []) hX mk_X2_82 nk_X2_put (fun l => c_X2_put l S ha1 hcw15) (tb_X2 ha1) rfl ⟨rfl, rfl, Nat.le_of_ble_eq_true rfl, Nat.le_of_ble_eq_true rfl⟩ rfl rfl (Nat.le_of_ble_eq_true rfl) dX2_begin_78 ?_
    refine V_aload_n hX dX2_begin_81 0 rfl ?_
    refine V_iload_n hX dX2_begin_82 3 rfl ?_
    have k20 : V X S w15 91 [(0, rf S a1), (1, .int x2), (2, .int x11), (3, .int x12)] [.int (if x12 = 0 then 0 else 1), rf S a1] := by
      refine V_topi (fun x17 ex17 => ?_)
      replace hP := lt_r ex17 hP
      refine V_putI hX fw_X2_37 (tb_X2 ha1) (fun _ _ _ => ⟨Nat.le_of_ble_eq_true rfl, rfl⟩) dX2_begin_91 (fun w18 ew18 => ?_)
      replace hP := lt_r ew18 hP
      refine V_aload_n hX dX2_begin_94 0 rfl ?_
      refine V_iconst (v := 1) hX dX2_begin_95 (by decide) ?_
      refine V_putZ hX fw_X2_40 (tb_X2 ha1) (by decide) (fun _ _ _ => ⟨Nat.le_of_ble_eq_true rfl, rfl⟩) dX2_begin_96 (fun w19 ew19 => ?_)
      replace hP := lt_r ew19 hP
      refine V_iconst (v := 1) hX dX2_begin_99 (by decide) ?_
      exact hR _ _ _ _ (Option.some.inj hP) rfl dX2_begin_100
    refine V_if_eq (tgt := 90) hX dX2_begin_83 (by decide) (fun hc16 => ?_) (fun hc16 => ?_)
    · refine V_iconst (v := 0) hX dX2_begin_90 (by decide) ?_
      refine V_selT (c := x12 = 0) (b := 1) hc16 ?_
      exact k20
    · refine V_iconst (v := 1) hX dX2_begin_86 (by decide) ?_
      refine V_goto (tgt := 91) hX dX2_begin_87 (by decide) ?_
      refine V_selF (c := x12 = 0) (a := 0) hc16 ?_
      exact k20
  refine V_if_eq (tgt := 73) hX dX2_begin_63 (by decide) (fun hc13 => ?_) (fun hc13 => ?_)
  · refine V_sipush (v := 1000) hX dX2_begin_73 (by decide) ?_
    refine V_iload_n hX dX2_begin_76 2 rfl ?_
    refine V_iadd hX dX2_begin_77 ?_
    refine V_selT (c := x12 = 0) (b := x2 - 48) hc13 ?_
    exact k21
  · refine V_iload_n hX dX2_begin_66 1 rfl ?_
    refine V_bipush (v := 48) hX dX2_begin_67 (by decide) ?_
    refine V_isub hX dX2_begin_69 ?_
    refine V_goto (tgt := 78) hX dX2_begin_70 (by decide) ?_
    refine V_selF (c := x12 = 0) (a := 1000 + x11) hc13 ?_
    exact k21
def P_X2_begin (F : Nat) (w : Wd) (a1 : Nat) (x2 : Int32) : Option (Int32 × Wd) := (if x2 = 45 then bnv (P_X2_hold F w a1 126) (fun w27 => some (1, w27)) else (if x2 = 40 then bnd (P_X2_open F w a1) (fun x25 w24 => gd (isZO x25) (some (x25, w24))) else bnd (P_J0_indexOf_0f7a4 F w 0 (i2cI x2)) (fun x6 w5 => lt (if x2 < 48 then 0 else if (57 : Int32) < x2 then 0 else 1 : Int32) (fun x9 => (if x9 = 0 then (if (0 : Int32) ≤ x6 then K_X2_begin_61 F a1 x2  w5 x6 x9 else some (0, w5)) else K_X2_begin_61 F a1 x2  w5 x6 x9)))))
set_option maxRecDepth 100000 in
set_option maxHeartbeats 4000000 in
theorem s_X2_begin {X : Cx} {S : Sx} {r : Int32 × Wd} {F : Nat} {w : Wd} {a1 : Nat} {x2 : Int32} (ha1 : isX2 a1 = true) (hX : Ok X S cX2_begin RX2 4 rm_X2_begin) (hR : HRt X S cX2_begin .boolean r) (hP : P_X2_begin F w a1 x2 = some r) : V X S w 0 [(0, rf S a1), (1, .int x2)] [] := by
  unfold P_X2_begin at hP
  refine V_iload_n hX dX2_begin_0 1 rfl ?_
  refine V_bipush (v := 45) hX dX2_begin_1 (by decide) ?_
  refine V_icmp_ne (tgt := 14) hX dX2_begin_3 (by decide) (fun hc3 => ?_) (fun hc3 => ?_)
  · replace hP := ite_f hc3 hP
    refine V_iload_n hX dX2_begin_14 1 rfl ?_
    refine V_bipush (v := 40) hX dX2_begin_15 (by decide) ?_
    refine V_icmp_ne (tgt := 25) hX dX2_begin_17 (by decide) (fun hc4 => ?_) (fun hc4 => ?_)
    · replace hP := ite_f hc4 hP
      refine V_ldcS (k := 0) (tx := "stnwfrm") hX dX2_begin_25 (fun s h => h.2.2.2.1.1) ?_
      refine V_iload_n hX dX2_begin_27 1 rfl ?_
      refine V_i2c hX dX2_begin_28 ?_
      obtain ⟨x6, w5, hcw5, hP⟩ := bnd_e hP
      refine V_callTi (As := [.int (i2cI x2)]) (rest := []) hX mk_X2_77 nk_J0_indexOf_0f7a4 (fun l => c_J0_indexOf_0f7a4 l S (by decide) hcw5) (by decide) ⟨rfl, rfl, Nat.le_of_ble_eq_true rfl, Nat.le_of_ble_eq_true rfl⟩ rfl rfl (Nat.le_of_ble_eq_true rfl) dX2_begin_29 ?_
      refine V_istore_n (lv' := [(2, .int x6), (0, rf S a1), (1, .int x2)]) hX dX2_begin_32 (by decide) rfl ?_
      refine V_iload_n hX dX2_begin_33 2 rfl ?_
      refine V_bipush (v := 48) hX dX2_begin_34 (by decide) ?_
      have k23 : V X S w5 50 [(2, .int x6), (0, rf S a1), (1, .int x2)] [.int (if x2 < 48 then 0 else if (57 : Int32) < x2 then 0 else 1)] := by
        refine V_topi (fun x9 ex9 => ?_)
        replace hP := lt_r ex9 hP
        refine V_istore_n (lv' := [(3, .int x9), (2, .int x6), (0, rf S a1), (1, .int x2)]) hX dX2_begin_50 (by decide) rfl ?_
        refine V_iload_n hX dX2_begin_51 0 rfl ?_
        refine V_if_ne (tgt := 61) hX dX2_begin_52 (by decide) (fun hc10 => ?_) (fun hc10 => ?_)
        · replace hP := ite_f hc10 hP
          refine V_sub (lv' := [(0, rf S a1), (1, .int x2), (2, .int x6), (3, .int x9)]) [2, 3, 1, 0] rfl ?_
          exact sK_X2_begin_61 hX hR ha1   hP
        · replace hP := ite_t hc10 hP
          refine V_iload_n hX dX2_begin_55 1 rfl ?_
          refine V_if_ge (tgt := 61) hX dX2_begin_56 (by decide) (fun hc22 => ?_) (fun hc22 => ?_)
          · replace hP := ite_t hc22 hP
            refine V_sub (lv' := [(0, rf S a1), (1, .int x2), (2, .int x6), (3, .int x9)]) [2, 3, 1, 0] rfl ?_
            exact sK_X2_begin_61 hX hR ha1   hP
          · replace hP := ite_f hc22 hP
            refine V_iconst (v := 0) hX dX2_begin_59 (by decide) ?_
            exact hR _ _ _ _ (Option.some.inj hP) rfl dX2_begin_60
      refine V_icmp_lt (tgt := 49) hX dX2_begin_36 (by decide) (fun hc8 => ?_) (fun hc8 => ?_)
      · refine V_iconst (v := 0) hX dX2_begin_49 (by decide) ?_
        refine V_selT (c := x2 < 48) (b := if (57 : Int32) < x2 then 0 else 1) hc8 ?_
        exact k23
      · refine V_iload_n hX dX2_begin_39 2 rfl ?_
        refine V_bipush (v := 57) hX dX2_begin_40 (by decide) ?_
        refine V_icmp_gt (tgt := 49) hX dX2_begin_42 (by decide) (fun hc7 => ?_) (fun hc7 => ?_)
        · refine V_iconst (v := 0) hX dX2_begin_49 (by decide) ?_
          refine V_selT (c := (57 : Int32) < x2) (b := 1) hc7 ?_
          refine V_selF (c := x2 < 48) (a := 0) hc8 ?_
          exact k23
        · refine V_iconst (v := 1) hX dX2_begin_45 (by decide) ?_
          refine V_goto (tgt := 50) hX dX2_begin_46 (by decide) ?_
          refine V_selF (c := (57 : Int32) < x2) (a := 0) hc7 ?_
          refine V_selF (c := x2 < 48) (a := 0) hc8 ?_
          exact k23
    · replace hP := ite_t hc4 hP
      refine V_aload_n hX dX2_begin_20 0 rfl ?_
      obtain ⟨x25, w24, hcw24, hP⟩ := bnd_e hP
      refine V_callVi (As := []) (rest := []) hX mk_X2_71 nk_X2_open (fun l => c_X2_open l S ha1 hcw24) (tb_X2 ha1) rfl ⟨rfl, rfl, Nat.le_of_ble_eq_true rfl, Nat.le_of_ble_eq_true rfl⟩ rfl rfl (Nat.le_of_ble_eq_true rfl) dX2_begin_21 ?_
      obtain ⟨hz26, hP⟩ := gd_e hP
      exact hR _ _ _ _ (Option.some.inj hP) (nar_z hz26) dX2_begin_24
  · replace hP := ite_t hc3 hP
    refine V_aload_n hX dX2_begin_6 0 rfl ?_
    refine V_bipush (v := 126) hX dX2_begin_7 (by decide) ?_
    obtain ⟨w27, hcw27, hP⟩ := bnv_e hP
    refine V_callVv (As := [.int 126]) (rest := []) hX mk_X2_68 nk_X2_hold (fun l => c_X2_hold l S ha1 hcw27) (tb_X2 ha1) rfl ⟨rfl, rfl, Nat.le_of_ble_eq_true rfl, Nat.le_of_ble_eq_true rfl⟩ rfl rfl (Nat.le_of_ble_eq_true rfl) dX2_begin_9 ?_
    refine V_iconst (v := 1) hX dX2_begin_12 (by decide) ?_
    exact hR _ _ _ _ (Option.some.inj hP) rfl dX2_begin_13
theorem c_X2_begin (l : Launch) (S : Sx) {r : Int32 × Wd} {F : Nat} {w : Wd} {a1 : Nat} {x2 : Int32} (ha1 : isX2 a1 = true) (h : P_X2_begin F w a1 x2 = some r) : Met l yX2_begin (wsg yX2_begin cX2_begin 4 (some .boolean)) rm_X2_begin (PC S w [rf S a1, .int x2]) (QCi S r) 0 0 (Aw S) :=
  met_i (by decide) rfl (Nat.le_of_ble_eq_true rfl) ⟨rfl, rfl⟩ (fun X hX hR => s_X2_begin ha1 hX hR h)

-- MustNotStop$Law.read(LMustNotStop$Text;)I
abbrev rm_X2_read : Room := { frames := 6, cells := 0, slots := 0, locals := 178 }
theorem nk_X2_read : MNk yX2_read RX2 1 := ⟨rfl, by decide, by decide, by decide +kernel⟩
def K_X2_read_76 (F : Nat) (a1 : Nat) (x9 : Int32) (k91 : Wd → Option (Int32 × Wd)) (rc : Wd → Int32 → Option (Int32 × Wd)) (w : Wd) (x17 : Int32) (x18 : Int32) : Option (Int32 × Wd) := (if x18 = 0 then some (x17, w) else lt (x17 + 1 : Int32) (fun x20 => rc w x20))
set_option maxRecDepth 100000 in
set_option maxHeartbeats 4000000 in
theorem sK_X2_read_76 {X : Cx} {S : Sx} {r : Int32 × Wd} {F : Nat} {a1 : Nat} {x9 : Int32} {k91 : Wd → Option (Int32 × Wd)} {rc : Wd → Int32 → Option (Int32 × Wd)} {w : Wd} {x17 : Int32} {x18 : Int32} (hX : Ok X S cX2_read RX2 6 rm_X2_read) (hR : HRt X S cX2_read .int r) (ha1 : isX2 a1 = true) (hk91 : ∀ (w : Wd), k91 w = some r → V X S w 91 [(0, rf S a1), (1, rf S 1), (2, .int x9)] []) (hrc : ∀ (w : Wd) (x10 : Int32) , rc w x10 = some r → V X S w 42 [(0, rf S a1), (1, rf S 1), (2, .int x9), (3, .int x10)] [])  (hP : K_X2_read_76 F a1 x9 k91 rc w x17 x18 = some r) : V X S w 76 [(0, rf S a1), (1, rf S 1), (2, .int x9), (3, .int x17)] [.int x18] := by
  unfold K_X2_read_76 at hP
  refine V_istore (lv' := [(5, .int x18), (0, rf S a1), (1, rf S 1), (2, .int x9), (3, .int x17)]) hX dX2_read_76 (by decide) rfl ?_
  refine V_iload hX dX2_read_78 0 rfl ?_
  refine V_if_ne (tgt := 85) hX dX2_read_80 (by decide) (fun hc19 => ?_) (fun hc19 => ?_)
  · replace hP := ite_f hc19 hP
    obtain ⟨x20, ex20⟩ : ∃ y : Int32, y = x17 + 1 := ⟨_, rfl⟩
    replace hP := lt_r ex20 hP
    refine V_iinc (v := x20) (lv' := [(3, .int x20), (5, .int x18), (0, rf S a1), (1, rf S 1), (2, .int x9)]) hX dX2_read_85 (j := 4) rfl (by decide) (by rw [ex20]; rfl) rfl ?_
    refine V_goto (tgt := 42) hX dX2_read_88 (by decide) ?_
    refine V_sub (lv' := [(0, rf S a1), (1, rf S 1), (2, .int x9), (3, .int x20)]) [2, 3, 4, 0] rfl ?_
    exact hrc _ _  hP
  · replace hP := ite_t hc19 hP
    refine V_iload_n hX dX2_read_83 4 rfl ?_
    exact hR _ _ _ _ (Option.some.inj hP) rfl dX2_read_84
def L_X2_read_42 (F : Nat) (a1 : Nat) (x9 : Int32) (k91 : Wd → Option (Int32 × Wd)) : Nat → Wd → Int32 → Option (Int32 × Wd)
  | 0, _, _ => none
  | n + 1, w, x10 => (if x9 ≤ x10 then k91 w  else bnd (P_X8_at F w x10) (fun x13 w12 => (if (gI w12 a1 9) = 0 then bnd (P_X2_begin F w12 a1 x13) (fun x16 w15 => K_X2_read_76 F a1 x9 k91 ((L_X2_read_42 F a1 x9 k91 n)) w15 x10 x16) else bnd (P_X2_goOn F w12 a1 x13) (fun x22 w21 => K_X2_read_76 F a1 x9 k91 ((L_X2_read_42 F a1 x9 k91 n)) w21 x10 x22))))
set_option maxRecDepth 100000 in
set_option maxHeartbeats 4000000 in
theorem sL_X2_read_42 {X : Cx} {S : Sx} {r : Int32 × Wd} {F : Nat} {a1 : Nat} {x9 : Int32} {k91 : Wd → Option (Int32 × Wd)} (hX : Ok X S cX2_read RX2 6 rm_X2_read) (hR : HRt X S cX2_read .int r) (ha1 : isX2 a1 = true) (hk91 : ∀ (w : Wd), k91 w = some r → V X S w 91 [(0, rf S a1), (1, rf S 1), (2, .int x9)] []) : ∀ (n : Nat) (w : Wd) (x10 : Int32) , L_X2_read_42 F a1 x9 k91 n w x10 = some r → V X S w 42 [(0, rf S a1), (1, rf S 1), (2, .int x9), (3, .int x10)] [] := by
  intro n
  induction n with
  | zero =>
    intro w x10  hP
    exact nn hP
  | succ n ih =>
    intro w x10  hP
    rw [L_X2_read_42] at hP
    refine V_iload_n hX dX2_read_42 3 rfl ?_
    refine V_iload_n hX dX2_read_43 2 rfl ?_
    refine V_icmp_ge (tgt := 91) hX dX2_read_44 (by decide) (fun hc11 => ?_) (fun hc11 => ?_)
    · replace hP := ite_t hc11 hP
      refine V_sub (lv' := [(0, rf S a1), (1, rf S 1), (2, .int x9)]) [0, 1, 2] rfl ?_
      exact hk91 _   hP
    · replace hP := ite_f hc11 hP
      refine V_aload_n hX dX2_read_47 1 rfl ?_
      refine V_iload_n hX dX2_read_48 3 rfl ?_
      obtain ⟨x13, w12, hcw12, hP⟩ := bnd_e hP
      refine V_callVi (As := [.int x10]) (rest := []) hX mk_X2_53 nk_X8_at (fun l => c_X8_at l S  hcw12) tb_1 rfl ⟨rfl, rfl, Nat.le_of_ble_eq_true rfl, Nat.le_of_ble_eq_true rfl⟩ rfl rfl (Nat.le_of_ble_eq_true rfl) dX2_read_49 ?_
      refine V_istore (lv' := [(4, .int x13), (0, rf S a1), (1, rf S 1), (2, .int x9), (3, .int x10)]) hX dX2_read_52 (by decide) rfl ?_
      refine V_aload_n hX dX2_read_54 1 rfl ?_
      refine V_getI hX fk_X2_40 (tb_X2 ha1) (fun _ _ _ => rfl) dX2_read_55 ?_
      refine V_if_eq (tgt := 70) hX dX2_read_58 (by decide) (fun hc14 => ?_) (fun hc14 => ?_)
      · replace hP := ite_t hc14 hP
        refine V_aload_n hX dX2_read_70 1 rfl ?_
        refine V_iload hX dX2_read_71 0 rfl ?_
        obtain ⟨x16, w15, hcw15, hP⟩ := bnd_e hP
        refine V_callVi (As := [.int x13]) (rest := []) hX mk_X2_61 nk_X2_begin (fun l => c_X2_begin l S ha1 hcw15) (tb_X2 ha1) rfl ⟨rfl, rfl, Nat.le_of_ble_eq_true rfl, Nat.le_of_ble_eq_true rfl⟩ rfl rfl (Nat.le_of_ble_eq_true rfl) dX2_read_73 ?_
        refine V_sub (lv' := [(0, rf S a1), (1, rf S 1), (2, .int x9), (3, .int x10)]) [1, 2, 3, 4] rfl ?_
        exact sK_X2_read_76 hX hR ha1 hk91 ih  hP
      · replace hP := ite_f hc14 hP
        refine V_aload_n hX dX2_read_61 1 rfl ?_
        refine V_iload hX dX2_read_62 0 rfl ?_
        obtain ⟨x22, w21, hcw21, hP⟩ := bnd_e hP
        refine V_callVi (As := [.int x13]) (rest := []) hX mk_X2_57 nk_X2_goOn (fun l => c_X2_goOn l S ha1 hcw21) (tb_X2 ha1) rfl ⟨rfl, rfl, Nat.le_of_ble_eq_true rfl, Nat.le_of_ble_eq_true rfl⟩ rfl rfl (Nat.le_of_ble_eq_true rfl) dX2_read_64 ?_
        refine V_goto (tgt := 76) hX dX2_read_67 (by decide) ?_
        refine V_sub (lv' := [(0, rf S a1), (1, rf S 1), (2, .int x9), (3, .int x10)]) [1, 2, 3, 4] rfl ?_
        exact sK_X2_read_76 hX hR ha1 hk91 ih  hP
def K_X2_read_123 (F : Nat) (a1 : Nat)  (w : Wd)  : Option (Int32 × Wd) := bnv (P_X2_release F w a1 1) (fun w25 => some ((-1), w25))
set_option maxRecDepth 100000 in
set_option maxHeartbeats 4000000 in
theorem sK_X2_read_123 {X : Cx} {S : Sx} {r : Int32 × Wd} {F : Nat} {a1 : Nat}  {w : Wd}  (hX : Ok X S cX2_read RX2 6 rm_X2_read) (hR : HRt X S cX2_read .int r) (ha1 : isX2 a1 = true)   (hP : K_X2_read_123 F a1  w  = some r) : V X S w 123 [(0, rf S a1)] [] := by
  unfold K_X2_read_123 at hP
  refine V_aload_n hX dX2_read_123 0 rfl ?_
  refine V_iconst (v := 1) hX dX2_read_124 (by decide) ?_
  obtain ⟨w25, hcw25, hP⟩ := bnv_e hP
  refine V_callVv (As := [.int 1]) (rest := []) hX mk_X2_64 nk_X2_release (fun l => c_X2_release l S ha1 hcw25) (tb_X2 ha1) rfl ⟨rfl, rfl, Nat.le_of_ble_eq_true rfl, Nat.le_of_ble_eq_true rfl⟩ rfl rfl (Nat.le_of_ble_eq_true rfl) dX2_read_125 ?_
  refine V_iconst (v := (-1)) hX dX2_read_128 (by decide) ?_
  exact hR _ _ _ _ (Option.some.inj hP) rfl dX2_read_129
def P_X2_read (F : Nat) (w : Wd) (a1 : Nat) : Option (Int32 × Wd) := lt (sI w a1 1 0) (fun w2 => lt (sI w2 a1 5 0) (fun w3 => lt (sI w3 a1 6 0) (fun w4 => lt (sI w4 a1 7 0) (fun w5 => lt (sI w5 a1 8 0) (fun w6 => lt (sI w6 a1 9 0) (fun w7 => lt (minI (gI w7 1 1) 40 : Int32) (fun x8 => L_X2_read_42 F a1 x8 (fun w  => (if (gI w 1 1) ≤ 40 then (if x8 ≤ 0 then K_X2_read_123 F a1  w  else (if (gI w a1 9) = 0 then some (x8, w) else (if (gI w a1 6) ≤ 0 then K_X2_read_123 F a1  w  else some (x8, w)))) else some (40, w))) F w7 0)))))))
set_option maxRecDepth 100000 in
set_option maxHeartbeats 4000000 in
theorem s_X2_read {X : Cx} {S : Sx} {r : Int32 × Wd} {F : Nat} {w : Wd} {a1 : Nat} (ha1 : isX2 a1 = true) (hX : Ok X S cX2_read RX2 6 rm_X2_read) (hR : HRt X S cX2_read .int r) (hP : P_X2_read F w a1 = some r) : V X S w 0 [(0, rf S a1), (1, rf S 1)] [] := by
  unfold P_X2_read at hP
  refine V_aload_n hX dX2_read_0 0 rfl ?_
  refine V_iconst (v := 0) hX dX2_read_1 (by decide) ?_
  refine V_putI hX fw_X2_15 (tb_X2 ha1) (fun _ _ _ => ⟨Nat.le_of_ble_eq_true rfl, rfl⟩) dX2_read_2 (fun w2 ew2 => ?_)
  replace hP := lt_r ew2 hP
  refine V_aload_n hX dX2_read_5 0 rfl ?_
  refine V_iconst (v := 0) hX dX2_read_6 (by decide) ?_
  refine V_putI hX fw_X2_28 (tb_X2 ha1) (fun _ _ _ => ⟨Nat.le_of_ble_eq_true rfl, rfl⟩) dX2_read_7 (fun w3 ew3 => ?_)
  replace hP := lt_r ew3 hP
  refine V_aload_n hX dX2_read_10 0 rfl ?_
  refine V_iconst (v := 0) hX dX2_read_11 (by decide) ?_
  refine V_putI hX fw_X2_31 (tb_X2 ha1) (fun _ _ _ => ⟨Nat.le_of_ble_eq_true rfl, rfl⟩) dX2_read_12 (fun w4 ew4 => ?_)
  replace hP := lt_r ew4 hP
  refine V_aload_n hX dX2_read_15 0 rfl ?_
  refine V_iconst (v := 0) hX dX2_read_16 (by decide) ?_
  refine V_putI hX fw_X2_34 (tb_X2 ha1) (fun _ _ _ => ⟨Nat.le_of_ble_eq_true rfl, rfl⟩) dX2_read_17 (fun w5 ew5 => ?_)
  replace hP := lt_r ew5 hP
  refine V_aload_n hX dX2_read_20 0 rfl ?_
  refine V_iconst (v := 0) hX dX2_read_21 (by decide) ?_
  refine V_putI hX fw_X2_37 (tb_X2 ha1) (fun _ _ _ => ⟨Nat.le_of_ble_eq_true rfl, rfl⟩) dX2_read_22 (fun w6 ew6 => ?_)
  replace hP := lt_r ew6 hP
  refine V_aload_n hX dX2_read_25 0 rfl ?_
  refine V_iconst (v := 0) hX dX2_read_26 (by decide) ?_
  refine V_putZ hX fw_X2_40 (tb_X2 ha1) (by decide) (fun _ _ _ => ⟨Nat.le_of_ble_eq_true rfl, rfl⟩) dX2_read_27 (fun w7 ew7 => ?_)
  replace hP := lt_r ew7 hP
  refine V_aload_n hX dX2_read_30 1 rfl ?_
  refine V_getI hX fk_X2_44 tb_1 (fun _ _ _ => rfl) dX2_read_31 ?_
  refine V_bipush (v := 40) hX dX2_read_34 (by decide) ?_
  refine V_min hX mk_X2_47 ⟨Nat.le_of_ble_eq_true rfl, Nat.le_of_ble_eq_true rfl⟩ dX2_read_36 ?_
  refine V_topi (fun x8 ex8 => ?_)
  replace hP := lt_r ex8 hP
  refine V_istore_n (lv' := [(2, .int x8), (0, rf S a1), (1, rf S 1)]) hX dX2_read_39 (by decide) rfl ?_
  refine V_iconst (v := 0) hX dX2_read_40 (by decide) ?_
  refine V_istore_n (lv' := [(3, .int 0), (2, .int x8), (0, rf S a1), (1, rf S 1)]) hX dX2_read_41 (by decide) rfl ?_
  refine V_sub (lv' := [(0, rf S a1), (1, rf S 1), (2, .int x8), (3, .int 0)]) [2, 3, 1, 0] rfl ?_
  have k28 : ∀ (w : Wd)  , ((if (gI w 1 1) ≤ 40 then (if x8 ≤ 0 then K_X2_read_123 F a1  w  else (if (gI w a1 9) = 0 then some (x8, w) else (if (gI w a1 6) ≤ 0 then K_X2_read_123 F a1  w  else some (x8, w)))) else some (40, w))) = some r → V X S w 91 [(0, rf S a1), (1, rf S 1), (2, .int x8)] [] := by
    intro w   hP
    refine V_aload_n hX dX2_read_91 1 rfl ?_
    refine V_getI hX fk_X2_44 tb_1 (fun _ _ _ => rfl) dX2_read_92 ?_
    refine V_bipush (v := 40) hX dX2_read_95 (by decide) ?_
    refine V_icmp_le (tgt := 103) hX dX2_read_97 (by decide) (fun hc23 => ?_) (fun hc23 => ?_)
    · replace hP := ite_t hc23 hP
      refine V_iload_n hX dX2_read_103 2 rfl ?_
      refine V_if_le (tgt := 123) hX dX2_read_104 (by decide) (fun hc24 => ?_) (fun hc24 => ?_)
      · replace hP := ite_t hc24 hP
        refine V_sub (lv' := [(0, rf S a1)]) [0] rfl ?_
        exact sK_X2_read_123 hX hR ha1   hP
      · replace hP := ite_f hc24 hP
        refine V_aload_n hX dX2_read_107 0 rfl ?_
        refine V_getI hX fk_X2_40 (tb_X2 ha1) (fun _ _ _ => rfl) dX2_read_108 ?_
        refine V_if_eq (tgt := 121) hX dX2_read_111 (by decide) (fun hc26 => ?_) (fun hc26 => ?_)
        · replace hP := ite_t hc26 hP
          refine V_iload_n hX dX2_read_121 2 rfl ?_
          exact hR _ _ _ _ (Option.some.inj hP) rfl dX2_read_122
        · replace hP := ite_f hc26 hP
          refine V_aload_n hX dX2_read_114 0 rfl ?_
          refine V_getI hX fk_X2_31 (tb_X2 ha1) (fun _ _ _ => rfl) dX2_read_115 ?_
          refine V_if_le (tgt := 123) hX dX2_read_118 (by decide) (fun hc27 => ?_) (fun hc27 => ?_)
          · replace hP := ite_t hc27 hP
            refine V_sub (lv' := [(0, rf S a1)]) [0] rfl ?_
            exact sK_X2_read_123 hX hR ha1   hP
          · replace hP := ite_f hc27 hP
            refine V_iload_n hX dX2_read_121 2 rfl ?_
            exact hR _ _ _ _ (Option.some.inj hP) rfl dX2_read_122
    · replace hP := ite_f hc23 hP
      refine V_bipush (v := 40) hX dX2_read_100 (by decide) ?_
      exact hR _ _ _ _ (Option.some.inj hP) rfl dX2_read_102
  exact sL_X2_read_42 hX hR ha1 k28 F _ _  hP
theorem c_X2_read (l : Launch) (S : Sx) {r : Int32 × Wd} {F : Nat} {w : Wd} {a1 : Nat} (ha1 : isX2 a1 = true) (h : P_X2_read F w a1 = some r) : Met l yX2_read (wsg yX2_read cX2_read 6 (some .int)) rm_X2_read (PC S w [rf S a1, rf S 1]) (QCi S r) 0 0 (Aw S) :=
  met_i (by decide) rfl (Nat.le_of_ble_eq_true rfl) ⟨rfl, rfl⟩ (fun X hX hR => s_X2_read ha1 hX hR h)

-- MustNotStop$Law.named(I)I
abbrev rm_X2_named : Room := { frames := 1, cells := 0, slots := 0, locals := 64 }
theorem nk_X2_named : MNk yX2_named RX2 1 := ⟨rfl, by decide, by decide, by decide +kernel⟩
def P_X2_named (F : Nat) (w : Wd) (a1 : Nat) (x2 : Int32) : Option (Int32 × Wd) := lt (x2 - 1000 : Int32) (fun x3 => (if x3 < 0 then some (x2, w) else (if (7 : Int32) ≤ x3 then some (x2, w) else gd (inB x3 7) (some (gI w (a1 + 2) x3.toNatClampNeg, w)))))
set_option maxRecDepth 100000 in
set_option maxHeartbeats 4000000 in
theorem s_X2_named {X : Cx} {S : Sx} {r : Int32 × Wd} {F : Nat} {w : Wd} {a1 : Nat} {x2 : Int32} (ha1 : isX2 a1 = true) (hX : Ok X S cX2_named RX2 3 rm_X2_named) (hR : HRt X S cX2_named .int r) (hP : P_X2_named F w a1 x2 = some r) : V X S w 0 [(0, rf S a1), (1, .int x2)] [] := by
  unfold P_X2_named at hP
  refine V_iload_n hX dX2_named_0 1 rfl ?_
  refine V_sipush (v := 1000) hX dX2_named_1 (by decide) ?_
  refine V_isub hX dX2_named_4 ?_
  refine V_topi (fun x3 ex3 => ?_)
  replace hP := lt_r ex3 hP
  refine V_istore_n (lv' := [(2, .int x3), (0, rf S a1), (1, .int x2)]) hX dX2_named_5 (by decide) rfl ?_
  refine V_iload_n hX dX2_named_6 0 rfl ?_
  refine V_if_lt (tgt := 28) hX dX2_named_7 (by decide) (fun hc4 => ?_) (fun hc4 => ?_)
  · replace hP := ite_t hc4 hP
    refine V_iload_n hX dX2_named_28 2 rfl ?_
    exact hR _ _ _ _ (Option.some.inj hP) rfl dX2_named_29
  · replace hP := ite_f hc4 hP
    refine V_iload_n hX dX2_named_10 0 rfl ?_
    refine V_aload_n hX dX2_named_11 1 rfl ?_
    refine V_getF (j := a1 + 2) hX fk_X2_19 (tb_X2 ha1) (fun _ _ _ => rfl) dX2_named_12 ?_
    refine V_alenI (v := 7) hX (tb_X2_2 ha1) (by decide) dX2_named_15 ?_
    refine V_icmp_ge (tgt := 28) hX dX2_named_16 (by decide) (fun hc5 => ?_) (fun hc5 => ?_)
    · replace hP := ite_t hc5 hP
      refine V_iload_n hX dX2_named_28 2 rfl ?_
      exact hR _ _ _ _ (Option.some.inj hP) rfl dX2_named_29
    · replace hP := ite_f hc5 hP
      refine V_aload_n hX dX2_named_19 1 rfl ?_
      refine V_getF (j := a1 + 2) hX fk_X2_19 (tb_X2 ha1) (fun _ _ _ => rfl) dX2_named_20 ?_
      refine V_iload_n hX dX2_named_23 0 rfl ?_
      obtain ⟨hi6, hP⟩ := gd_e hP
      refine V_iald hX (tb_X2_2 ha1) hi6 dX2_named_24 ?_
      refine V_goto (tgt := 29) hX dX2_named_25 (by decide) ?_
      exact hR _ _ _ _ (Option.some.inj hP) rfl dX2_named_29
theorem c_X2_named (l : Launch) (S : Sx) {r : Int32 × Wd} {F : Nat} {w : Wd} {a1 : Nat} {x2 : Int32} (ha1 : isX2 a1 = true) (h : P_X2_named F w a1 x2 = some r) : Met l yX2_named (wsg yX2_named cX2_named 3 (some .int)) rm_X2_named (PC S w [rf S a1, .int x2]) (QCi S r) 0 0 (Aw S) :=
  met_i (by decide) rfl (Nat.le_of_ble_eq_true rfl) ⟨rfl, rfl⟩ (fun X hX hR => s_X2_named ha1 hX hR h)
