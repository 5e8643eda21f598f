-- MustNotStop.pass(I)I
abbrev rm_X10_pass : Room := { frames := 6, cells := 0, slots := 0, locals := 186 }
theorem nk_X10_pass : MNk yX10_pass RX10 1 := ⟨rfl, by decide, by decide, by decide +kernel⟩
def L_X10_pass_22 (F : Nat) (x1 : Int32) (x5 : Int32) (k44 : Wd → Option (Int32 × Wd)) : Nat → Wd → Int32 → Option (Int32 × Wd)
  | 0, _, _ => none
  | n + 1, w, x6 => (if x1 ≤ x6 then k44 w  else bnv (P_X9_minute F w 5 23) (fun w8 => lt (x6 + 1 : Int32) (fun x9 => L_X10_pass_22 F x1 x5 k44 n w8 x9)))
set_option maxRecDepth 100000 in
set_option maxHeartbeats 4000000 in
theorem sL_X10_pass_22 {X : Cx} {S : Sx} {r : Int32 × Wd} {F : Nat} {x1 : Int32} {x5 : Int32} {k44 : Wd → Option (Int32 × Wd)} (hX : Ok X S cX10_pass RX10 4 rm_X10_pass) (hR : HRt X S cX10_pass .int r)  (hk44 : ∀ (w : Wd), k44 w = some r → V X S w 44 [(0, rf S 0), (2, .int x5)] []) : ∀ (n : Nat) (w : Wd) (x6 : Int32) , L_X10_pass_22 F x1 x5 k44 n w x6 = some r → V X S w 22 [(0, rf S 0), (1, .int x1), (2, .int x5), (3, .int x6)] [] := by
  intro n
  induction n with
  | zero =>
    intro w x6  hP
    exact nn hP
  | succ n ih =>
    intro w x6  hP
    rw [L_X10_pass_22] at hP
    refine V_iload_n hX dX10_pass_22 3 rfl ?_
    refine V_iload_n hX dX10_pass_23 1 rfl ?_
    refine V_icmp_ge (tgt := 44) hX dX10_pass_24 (by decide) (fun hc7 => ?_) (fun hc7 => ?_)
    · replace hP := ite_t hc7 hP
      refine V_sub (lv' := [(0, rf S 0), (2, .int x5)]) [0, 2] rfl ?_
      exact hk44 _   hP
    · replace hP := ite_f hc7 hP
      refine V_aload_n hX dX10_pass_27 0 rfl ?_
      refine V_getF (j := 5) hX fk_X10_34 tb_0 (fun _ _ _ => rfl) dX10_pass_28 ?_
      refine V_aload_n hX dX10_pass_31 0 rfl ?_
      refine V_getF (j := 23) hX fk_X10_58 tb_0 (fun _ _ _ => rfl) dX10_pass_32 ?_
      obtain ⟨w8, hcw8, hP⟩ := bnv_e hP
      refine V_callVv (As := [rf S 23]) (rest := []) hX mk_X10_239 nk_X9_minute (fun l => c_X9_minute l S (by decide) (by decide) hcw8) tb_5 rfl ⟨rfl, rfl, Nat.le_of_ble_eq_true rfl, Nat.le_of_ble_eq_true rfl⟩ rfl rfl (Nat.le_of_ble_eq_true rfl) dX10_pass_35 ?_
      obtain ⟨x9, ex9⟩ : ∃ y : Int32, y = x6 + 1 := ⟨_, rfl⟩
      replace hP := lt_r ex9 hP
      refine V_iinc (v := x9) (lv' := [(3, .int x9), (0, rf S 0), (1, .int x1), (2, .int x5)]) hX dX10_pass_38 (j := 3) rfl (by decide) (by rw [ex9]; rfl) rfl ?_
      refine V_goto (tgt := 22) hX dX10_pass_41 (by decide) ?_
      refine V_sub (lv' := [(0, rf S 0), (1, .int x1), (2, .int x5), (3, .int x9)]) [1, 2, 3, 0] rfl ?_
      exact ih _ _  hP
def P_X10_pass (F : Nat) (w : Wd) (x1 : Int32) : Option (Int32 × Wd) := (if x1 < 0 then some ((-1), w) else (if x1 ≤ 120 then lt (gI w 23 4 : Int32) (fun x4 => L_X10_pass_22 F x1 x4 (fun w  => some ((gI w 23 4) - x4, w)) F w 0) else some ((-1), w)))
set_option maxRecDepth 100000 in
set_option maxHeartbeats 4000000 in
theorem s_X10_pass {X : Cx} {S : Sx} {r : Int32 × Wd} {F : Nat} {w : Wd} {x1 : Int32}  (hX : Ok X S cX10_pass RX10 4 rm_X10_pass) (hR : HRt X S cX10_pass .int r) (hP : P_X10_pass F w x1 = some r) : V X S w 0 [(0, rf S 0), (1, .int x1)] [] := by
  unfold P_X10_pass at hP
  refine V_iload_n hX dX10_pass_0 1 rfl ?_
  refine V_if_lt (tgt := 10) hX dX10_pass_1 (by decide) (fun hc2 => ?_) (fun hc2 => ?_)
  · replace hP := ite_t hc2 hP
    refine V_iconst (v := (-1)) hX dX10_pass_10 (by decide) ?_
    exact hR _ _ _ _ (Option.some.inj hP) rfl dX10_pass_11
  · replace hP := ite_f hc2 hP
    refine V_iload_n hX dX10_pass_4 1 rfl ?_
    refine V_bipush (v := 120) hX dX10_pass_5 (by decide) ?_
    refine V_icmp_le (tgt := 12) hX dX10_pass_7 (by decide) (fun hc3 => ?_) (fun hc3 => ?_)
    · replace hP := ite_t hc3 hP
      refine V_aload_n hX dX10_pass_12 0 rfl ?_
      refine V_getF (j := 23) hX fk_X10_58 tb_0 (fun _ _ _ => rfl) dX10_pass_13 ?_
      refine V_getI hX fk_X10_236 tb_23 (fun _ _ _ => rfl) dX10_pass_16 ?_
      refine V_topi (fun x4 ex4 => ?_)
      replace hP := lt_r ex4 hP
      refine V_istore_n (lv' := [(2, .int x4), (0, rf S 0), (1, .int x1)]) hX dX10_pass_19 (by decide) rfl ?_
      refine V_iconst (v := 0) hX dX10_pass_20 (by decide) ?_
      refine V_istore_n (lv' := [(3, .int 0), (2, .int x4), (0, rf S 0), (1, .int x1)]) hX dX10_pass_21 (by decide) rfl ?_
      refine V_sub (lv' := [(0, rf S 0), (1, .int x1), (2, .int x4), (3, .int 0)]) [2, 3, 1, 0] rfl ?_
      have k10 : ∀ (w : Wd)  , (some ((gI w 23 4) - x4, w)) = some r → V X S w 44 [(0, rf S 0), (2, .int x4)] [] := by
        intro w   hP
        refine V_aload_n hX dX10_pass_44 0 rfl ?_
        refine V_getF (j := 23) hX fk_X10_58 tb_0 (fun _ _ _ => rfl) dX10_pass_45 ?_
        refine V_getI hX fk_X10_236 tb_23 (fun _ _ _ => rfl) dX10_pass_48 ?_
        refine V_iload_n hX dX10_pass_51 1 rfl ?_
        refine V_isub hX dX10_pass_52 ?_
        exact hR _ _ _ _ (Option.some.inj hP) rfl dX10_pass_53
      exact sL_X10_pass_22 hX hR  k10 F _ _  hP
    · replace hP := ite_f hc3 hP
      refine V_iconst (v := (-1)) hX dX10_pass_10 (by decide) ?_
      exact hR _ _ _ _ (Option.some.inj hP) rfl dX10_pass_11
theorem c_X10_pass (l : Launch) (S : Sx) {r : Int32 × Wd} {F : Nat} {w : Wd} {x1 : Int32}  (h : P_X10_pass F w x1 = some r) : Met l yX10_pass (wsg yX10_pass cX10_pass 4 (some .int)) rm_X10_pass (PC S w [rf S 0, .int x1]) (QCi S r) 0 0 (Aw S) :=
  met_i (by decide) rfl (Nat.le_of_ble_eq_true rfl) ⟨rfl, rfl⟩ (fun X hX hR => s_X10_pass  hX hR h)

-- MustNotStop.tell(JJ)V
abbrev rm_X10_tell_ : Room := { frames := 2, cells := 0, slots := 0, locals := 86 }
theorem nk_X10_tell_ : MNk yX10_tell_ RX10 2 := ⟨rfl, by decide, by decide, by decide +kernel⟩
def P_X10_tell_ (F : Nat) (w : Wd) (x1 : Int64) (x2 : Int64) : Option (Wd) := bnv (P_X7_clear F w ) (fun w3 => bnv (P_X7_add F w3 x1) (fun w4 => bnv (P_X7_add F w4 x2) (fun w5 => some w5)))
set_option maxRecDepth 100000 in
set_option maxHeartbeats 4000000 in
theorem s_X10_tell_ {X : Cx} {S : Sx} {r : Wd} {F : Nat} {w : Wd} {x1 : Int64} {x2 : Int64}  (hX : Ok X S cX10_tell_ RX10 5 rm_X10_tell_) (hR : HRv X S cX10_tell_ r) (hP : P_X10_tell_ F w x1 x2 = some r) : V X S w 0 [(0, rf S 0), (1, .long x1), (3, .long x2)] [] := by
  unfold P_X10_tell_ at hP
  refine V_aload_n hX dX10_tell__0 0 rfl ?_
  refine V_getF (j := 3) hX fk_X10_19 tb_0 (fun _ _ _ => rfl) dX10_tell__1 ?_
  obtain ⟨w3, hcw3, hP⟩ := bnv_e hP
  refine V_callVv (As := []) (rest := []) hX mk_X10_289 nk_X7_clear (fun l => c_X7_clear l S  hcw3) tb_3 rfl ⟨rfl, rfl, Nat.le_of_ble_eq_true rfl, Nat.le_of_ble_eq_true rfl⟩ rfl rfl (Nat.le_of_ble_eq_true rfl) dX10_tell__4 ?_
  refine V_aload_n hX dX10_tell__7 0 rfl ?_
  refine V_getF (j := 3) hX fk_X10_19 tb_0 (fun _ _ _ => rfl) dX10_tell__8 ?_
  refine V_lload_n hX dX10_tell__11 1 rfl ?_
  obtain ⟨w4, hcw4, hP⟩ := bnv_e hP
  refine V_callVv (As := [.long x1]) (rest := []) hX mk_X10_293 nk_X7_add (fun l => c_X7_add l S  hcw4) tb_3 rfl ⟨rfl, rfl, Nat.le_of_ble_eq_true rfl, Nat.le_of_ble_eq_true rfl⟩ rfl rfl (Nat.le_of_ble_eq_true rfl) dX10_tell__12 ?_
  refine V_aload_n hX dX10_tell__15 0 rfl ?_
  refine V_getF (j := 3) hX fk_X10_19 tb_0 (fun _ _ _ => rfl) dX10_tell__16 ?_
  refine V_lload_n hX dX10_tell__19 2 rfl ?_
  obtain ⟨w5, hcw5, hP⟩ := bnv_e hP
  refine V_callVv (As := [.long x2]) (rest := []) hX mk_X10_293 nk_X7_add (fun l => c_X7_add l S  hcw5) tb_3 rfl ⟨rfl, rfl, Nat.le_of_ble_eq_true rfl, Nat.le_of_ble_eq_true rfl⟩ rfl rfl (Nat.le_of_ble_eq_true rfl) dX10_tell__20 ?_
  exact hR _ _ _ (Option.some.inj hP) dX10_tell__23
theorem c_X10_tell_ (l : Launch) (S : Sx) {r : Wd} {F : Nat} {w : Wd} {x1 : Int64} {x2 : Int64}  (h : P_X10_tell_ F w x1 x2 = some r) : Met l yX10_tell_ (wsg yX10_tell_ cX10_tell_ 5 none) rm_X10_tell_ (PC S w [rf S 0, .long x1, .long x2]) (QCv S r) 0 0 (Aw S) :=
  met_v (by decide) rfl (Nat.le_of_ble_eq_true rfl) ⟨rfl, rfl⟩ (fun X hX hR => s_X10_tell_  hX hR h)

-- MustNotStop.minutes(I)I
abbrev rm_X10_minutes : Room := { frames := 7, cells := 0, slots := 0, locals := 209 }
theorem nk_X10_minutes : MNk yX10_minutes RX10 1 := ⟨rfl, by decide, by decide, by decide +kernel⟩
def P_X10_minutes (F : Nat) (w : Wd) (x1 : Int32) : Option (Int32 × Wd) := bnv (P_X1_copy F w 27 23) (fun w2 => bnd (P_X10_pass F w2 x1) (fun x4 w3 => bnd (P_X10_remembered F w3 x4) (fun x6 w5 => (if x6 < 0 then some (x6, w5) else bnv (P_X10_tell_ F w5 (Int32.toInt64 ((gI w5 23 6) - (gI w5 27 6))) (Int32.toInt64 ((gI w5 23 8) &&& ((gI w5 27 8) ^^^ ((-1)))))) (fun w8 => some (x6, w8))))))
set_option maxRecDepth 100000 in
set_option maxHeartbeats 4000000 in
theorem s_X10_minutes {X : Cx} {S : Sx} {r : Int32 × Wd} {F : Nat} {w : Wd} {x1 : Int32}  (hX : Ok X S cX10_minutes RX10 3 rm_X10_minutes) (hR : HRt X S cX10_minutes .int r) (hP : P_X10_minutes F w x1 = some r) : V X S w 0 [(0, rf S 0), (1, .int x1)] [] := by
  unfold P_X10_minutes at hP
  refine V_aload_n hX dX10_minutes_0 0 rfl ?_
  refine V_getF (j := 27) hX fk_X10_65 tb_0 (fun _ _ _ => rfl) dX10_minutes_1 ?_
  refine V_aload_n hX dX10_minutes_4 0 rfl ?_
  refine V_getF (j := 23) hX fk_X10_58 tb_0 (fun _ _ _ => rfl) dX10_minutes_5 ?_
  obtain ⟨w2, hcw2, hP⟩ := bnv_e hP
  refine V_callVv (As := [rf S 23]) (rest := []) hX mk_X10_180 nk_X1_copy (fun l => c_X1_copy l S (by decide) (by decide) hcw2) tb_27 rfl ⟨rfl, rfl, Nat.le_of_ble_eq_true rfl, Nat.le_of_ble_eq_true rfl⟩ rfl rfl (Nat.le_of_ble_eq_true rfl) dX10_minutes_8 ?_
  refine V_aload_n hX dX10_minutes_11 0 rfl ?_
  refine V_aload_n hX dX10_minutes_12 0 rfl ?_
  refine V_iload_n hX dX10_minutes_13 1 rfl ?_
  obtain ⟨x4, w3, hcw3, hP⟩ := bnd_e hP
  refine V_callVi (As := [.int x1]) (rest := [rf S 0]) hX mk_X10_196 nk_X10_pass (fun l => c_X10_pass l S  hcw3) tb_0 rfl ⟨rfl, rfl, Nat.le_of_ble_eq_true rfl, Nat.le_of_ble_eq_true rfl⟩ rfl rfl (Nat.le_of_ble_eq_true rfl) dX10_minutes_14 ?_
  obtain ⟨x6, w5, hcw5, hP⟩ := bnd_e hP
  refine V_callVi (As := [.int x4]) (rest := []) hX mk_X10_187 nk_X10_remembered (fun l => c_X10_remembered l S  hcw5) tb_0 rfl ⟨rfl, rfl, Nat.le_of_ble_eq_true rfl, Nat.le_of_ble_eq_true rfl⟩ rfl rfl (Nat.le_of_ble_eq_true rfl) dX10_minutes_17 ?_
  refine V_istore_n (lv' := [(2, .int x6), (0, rf S 0), (1, .int x1)]) hX dX10_minutes_20 (by decide) rfl ?_
  refine V_iload_n hX dX10_minutes_21 0 rfl ?_
  refine V_if_lt (tgt := 63) hX dX10_minutes_22 (by decide) (fun hc7 => ?_) (fun hc7 => ?_)
  · replace hP := ite_t hc7 hP
    refine V_iload_n hX dX10_minutes_63 0 rfl ?_
    exact hR _ _ _ _ (Option.some.inj hP) rfl dX10_minutes_64
  · replace hP := ite_f hc7 hP
    refine V_aload_n hX dX10_minutes_25 1 rfl ?_
    refine V_aload_n hX dX10_minutes_26 1 rfl ?_
    refine V_getF (j := 23) hX fk_X10_58 tb_0 (fun _ _ _ => rfl) dX10_minutes_27 ?_
    refine V_getI hX fk_X10_199 tb_23 (fun _ _ _ => rfl) dX10_minutes_30 ?_
    refine V_aload_n hX dX10_minutes_33 1 rfl ?_
    refine V_getF (j := 27) hX fk_X10_65 tb_0 (fun _ _ _ => rfl) dX10_minutes_34 ?_
    refine V_getI hX fk_X10_199 tb_27 (fun _ _ _ => rfl) dX10_minutes_37 ?_
    refine V_isub hX dX10_minutes_40 ?_
    refine V_i2l hX dX10_minutes_41 ?_
    refine V_aload_n hX dX10_minutes_42 1 rfl ?_
    refine V_getF (j := 23) hX fk_X10_58 tb_0 (fun _ _ _ => rfl) dX10_minutes_43 ?_
    refine V_getI hX fk_X10_145 tb_23 (fun _ _ _ => rfl) dX10_minutes_46 ?_
    refine V_aload_n hX dX10_minutes_49 1 rfl ?_
    refine V_getF (j := 27) hX fk_X10_65 tb_0 (fun _ _ _ => rfl) dX10_minutes_50 ?_
    refine V_getI hX fk_X10_145 tb_27 (fun _ _ _ => rfl) dX10_minutes_53 ?_
    refine V_iconst (v := (-1)) hX dX10_minutes_56 (by decide) ?_
    refine V_ixor hX dX10_minutes_57 ?_
    refine V_iand hX dX10_minutes_58 ?_
    refine V_i2l hX dX10_minutes_59 ?_
    obtain ⟨w8, hcw8, hP⟩ := bnv_e hP
    refine V_callVv (As := [.long (Int32.toInt64 ((gI w5 23 6) - (gI w5 27 6))), .long (Int32.toInt64 ((gI w5 23 8) &&& ((gI w5 27 8) ^^^ ((-1)))))]) (rest := []) hX mk_X10_202 nk_X10_tell_ (fun l => c_X10_tell_ l S  hcw8) tb_0 rfl ⟨rfl, rfl, Nat.le_of_ble_eq_true rfl, Nat.le_of_ble_eq_true rfl⟩ rfl rfl (Nat.le_of_ble_eq_true rfl) dX10_minutes_60 ?_
    refine V_iload_n hX dX10_minutes_63 0 rfl ?_
    exact hR _ _ _ _ (Option.some.inj hP) rfl dX10_minutes_64
theorem c_X10_minutes (l : Launch) (S : Sx) {r : Int32 × Wd} {F : Nat} {w : Wd} {x1 : Int32}  (h : P_X10_minutes F w x1 = some r) : Met l yX10_minutes (wsg yX10_minutes cX10_minutes 3 (some .int)) rm_X10_minutes (PC S w [rf S 0, .int x1]) (QCi S r) 0 0 (Aw S) :=
  met_i (by decide) rfl (Nat.le_of_ble_eq_true rfl) ⟨rfl, rfl⟩ (fun X hX hR => s_X10_minutes  hX hR h)

-- MustNotStop.relieve(II)I
abbrev rm_X10_relieve : Room := { frames := 3, cells := 0, slots := 0, locals := 106 }
theorem nk_X10_relieve : MNk yX10_relieve RX10 2 := ⟨rfl, by decide, by decide, by decide +kernel⟩
def P_X10_relieve (F : Nat) (w : Wd) (x1 : Int32) (x2 : Int32) : Option (Int32 × Wd) := lt (gI w 23 1 : Int32) (fun x3 => bnd (P_X10_letGo F w x1) (fun x5 w4 => (if (0 : Int32) ≤ x5 then bnd (P_X10_grasp F w4 x2) (fun x8 w7 => (if (0 : Int32) ≤ x8 then some (x8, w7) else lt (sI w7 23 1 x3) (fun w10 => some (x8, w10)))) else some (x5, w4))))
set_option maxRecDepth 100000 in
set_option maxHeartbeats 4000000 in
theorem s_X10_relieve {X : Cx} {S : Sx} {r : Int32 × Wd} {F : Nat} {w : Wd} {x1 : Int32} {x2 : Int32}  (hX : Ok X S cX10_relieve RX10 5 rm_X10_relieve) (hR : HRt X S cX10_relieve .int r) (hP : P_X10_relieve F w x1 x2 = some r) : V X S w 0 [(0, rf S 0), (1, .int x1), (2, .int x2)] [] := by
  unfold P_X10_relieve at hP
  refine V_aload_n hX dX10_relieve_0 0 rfl ?_
  refine V_getF (j := 23) hX fk_X10_58 tb_0 (fun _ _ _ => rfl) dX10_relieve_1 ?_
  refine V_getI hX fk_X10_148 tb_23 (fun _ _ _ => rfl) dX10_relieve_4 ?_
  refine V_topi (fun x3 ex3 => ?_)
  replace hP := lt_r ex3 hP
  refine V_istore_n (lv' := [(3, .int x3), (0, rf S 0), (1, .int x1), (2, .int x2)]) hX dX10_relieve_7 (by decide) rfl ?_
  refine V_aload_n hX dX10_relieve_8 1 rfl ?_
  refine V_iload_n hX dX10_relieve_9 2 rfl ?_
  obtain ⟨x5, w4, hcw4, hP⟩ := bnd_e hP
  refine V_callVi (As := [.int x1]) (rest := []) hX mk_X10_190 nk_X10_letGo (fun l => c_X10_letGo l S  hcw4) tb_0 rfl ⟨rfl, rfl, Nat.le_of_ble_eq_true rfl, Nat.le_of_ble_eq_true rfl⟩ rfl rfl (Nat.le_of_ble_eq_true rfl) dX10_relieve_10 ?_
  refine V_istore (lv' := [(4, .int x5), (3, .int x3), (0, rf S 0), (1, .int x1), (2, .int x2)]) hX dX10_relieve_13 (by decide) rfl ?_
  refine V_iload hX dX10_relieve_15 0 rfl ?_
  refine V_if_ge (tgt := 23) hX dX10_relieve_17 (by decide) (fun hc6 => ?_) (fun hc6 => ?_)
  · replace hP := ite_t hc6 hP
    refine V_aload_n hX dX10_relieve_23 2 rfl ?_
    refine V_iload_n hX dX10_relieve_24 4 rfl ?_
    obtain ⟨x8, w7, hcw7, hP⟩ := bnd_e hP
    refine V_callVi (As := [.int x2]) (rest := []) hX mk_X10_184 nk_X10_grasp (fun l => c_X10_grasp l S  hcw7) tb_0 rfl ⟨rfl, rfl, Nat.le_of_ble_eq_true rfl, Nat.le_of_ble_eq_true rfl⟩ rfl rfl (Nat.le_of_ble_eq_true rfl) dX10_relieve_25 ?_
    refine V_istore (lv' := [(4, .int x8), (3, .int x3), (0, rf S 0), (1, .int x1), (2, .int x2)]) hX dX10_relieve_28 (by decide) rfl ?_
    refine V_iload hX dX10_relieve_30 0 rfl ?_
    refine V_if_ge (tgt := 43) hX dX10_relieve_32 (by decide) (fun hc9 => ?_) (fun hc9 => ?_)
    · replace hP := ite_t hc9 hP
      refine V_iload hX dX10_relieve_43 0 rfl ?_
      exact hR _ _ _ _ (Option.some.inj hP) rfl dX10_relieve_45
    · replace hP := ite_f hc9 hP
      refine V_aload_n hX dX10_relieve_35 2 rfl ?_
      refine V_getF (j := 23) hX fk_X10_58 tb_0 (fun _ _ _ => rfl) dX10_relieve_36 ?_
      refine V_iload_n hX dX10_relieve_39 1 rfl ?_
      refine V_putI hX fw_X10_148 tb_23 (fun _ _ _ => ⟨Nat.le_of_ble_eq_true rfl, rfl⟩) dX10_relieve_40 (fun w10 ew10 => ?_)
      replace hP := lt_r ew10 hP
      refine V_iload hX dX10_relieve_43 0 rfl ?_
      exact hR _ _ _ _ (Option.some.inj hP) rfl dX10_relieve_45
  · replace hP := ite_f hc6 hP
    refine V_iload hX dX10_relieve_20 0 rfl ?_
    exact hR _ _ _ _ (Option.some.inj hP) rfl dX10_relieve_22
theorem c_X10_relieve (l : Launch) (S : Sx) {r : Int32 × Wd} {F : Nat} {w : Wd} {x1 : Int32} {x2 : Int32}  (h : P_X10_relieve F w x1 x2 = some r) : Met l yX10_relieve (wsg yX10_relieve cX10_relieve 5 (some .int)) rm_X10_relieve (PC S w [rf S 0, .int x1, .int x2]) (QCi S r) 0 0 (Aw S) :=
  met_i (by decide) rfl (Nat.le_of_ble_eq_true rfl) ⟨rfl, rfl⟩ (fun X hX hR => s_X10_relieve  hX hR h)

-- MustNotStop.act(I)I
abbrev rm_X10_act : Room := { frames := 7, cells := 0, slots := 0, locals := 209 }
theorem nk_X10_act : MNk yX10_act RX10 1 := ⟨rfl, by decide, by decide, by decide +kernel⟩
def P_X10_act (F : Nat) (w : Wd) (x1 : Int32) : Option (Int32 × Wd) := bnd (P_X8_at F w x1) (fun x3 w2 => (if x3 = 99 then bnd (P_X8_number F w2 (x1 + 1) 1) (fun x6 w5 => bnd (P_X8_number F w5 (x1 + 2) 1) (fun x8 w7 => bnd (P_X10_relieve F w7 x6 x8) (fun x10 w9 => some (x10, w9)))) else (if x3 = 108 then bnd (P_X8_number F w2 (x1 + 1) 1) (fun x13 w12 => bnd (P_X10_letGo F w12 x13) (fun x15 w14 => some (x15, w14))) else (if x3 = 109 then bnd (P_X8_number F w2 (x1 + 1) 2) (fun x18 w17 => bnd (P_X10_splice F w17 x18) (fun x20 w19 => some (x20, w19))) else (if x3 = 116 then bnd (P_X8_number F w2 (x1 + 1) 1) (fun x23 w22 => bnd (P_X10_grasp F w22 x23) (fun x25 w24 => some (x25, w24))) else bnd (P_X8_number F w2 x1 3) (fun x27 w26 => bnd (P_X10_pass F w26 x27) (fun x29 w28 => some (x29, w28))))))))
set_option maxRecDepth 100000 in
set_option maxHeartbeats 4000000 in
theorem s_X10_act {X : Cx} {S : Sx} {r : Int32 × Wd} {F : Nat} {w : Wd} {x1 : Int32}  (hX : Ok X S cX10_act RX10 2 rm_X10_act) (hR : HRt X S cX10_act .int r) (hP : P_X10_act F w x1 = some r) : V X S w 0 [(0, rf S 0), (1, .int x1)] [] := by
  unfold P_X10_act at hP
  refine V_aload_n hX dX10_act_0 0 rfl ?_
  refine V_getF (j := 1) hX fk_X10_10 tb_0 (fun _ _ _ => rfl) dX10_act_1 ?_
  refine V_iload_n hX dX10_act_4 1 rfl ?_
  obtain ⟨x3, w2, hcw2, hP⟩ := bnd_e hP
  refine V_callVi (As := [.int x1]) (rest := []) hX mk_X10_219 nk_X8_at (fun l => c_X8_at l S  hcw2) tb_1 rfl ⟨rfl, rfl, Nat.le_of_ble_eq_true rfl, Nat.le_of_ble_eq_true rfl⟩ rfl rfl (Nat.le_of_ble_eq_true rfl) dX10_act_5 ?_
  by_cases hc4 : x3 = 99
  · replace hP := ite_t hc4 hP
    refine V_lookup (tgt := 84) hX dX10_act_8 (by decide) (by rw [hc4] <;> rfl) (by decide) ?_
    refine V_aload_n hX dX10_act_84 0 rfl ?_
    refine V_aload_n hX dX10_act_85 0 rfl ?_
    refine V_getF (j := 1) hX fk_X10_10 tb_0 (fun _ _ _ => rfl) dX10_act_86 ?_
    refine V_iload_n hX dX10_act_89 1 rfl ?_
    refine V_iconst (v := 1) hX dX10_act_90 (by decide) ?_
    refine V_iadd hX dX10_act_91 ?_
    refine V_iconst (v := 1) hX dX10_act_92 (by decide) ?_
    obtain ⟨x6, w5, hcw5, hP⟩ := bnd_e hP
    refine V_callVi (As := [.int (x1 + 1), .int 1]) (rest := [rf S 0]) hX mk_X10_222 nk_X8_number (fun l => c_X8_number l S  hcw5) tb_1 rfl ⟨rfl, rfl, Nat.le_of_ble_eq_true rfl, Nat.le_of_ble_eq_true rfl⟩ rfl rfl (Nat.le_of_ble_eq_true rfl) dX10_act_93 ?_
    refine V_aload_n hX dX10_act_96 0 rfl ?_
    refine V_getF (j := 1) hX fk_X10_10 tb_0 (fun _ _ _ => rfl) dX10_act_97 ?_
    refine V_iload_n hX dX10_act_100 1 rfl ?_
    refine V_iconst (v := 2) hX dX10_act_101 (by decide) ?_
    refine V_iadd hX dX10_act_102 ?_
    refine V_iconst (v := 1) hX dX10_act_103 (by decide) ?_
    obtain ⟨x8, w7, hcw7, hP⟩ := bnd_e hP
    refine V_callVi (As := [.int (x1 + 2), .int 1]) (rest := [.int x6, rf S 0]) hX mk_X10_222 nk_X8_number (fun l => c_X8_number l S  hcw7) tb_1 rfl ⟨rfl, rfl, Nat.le_of_ble_eq_true rfl, Nat.le_of_ble_eq_true rfl⟩ rfl rfl (Nat.le_of_ble_eq_true rfl) dX10_act_104 ?_
    obtain ⟨x10, w9, hcw9, hP⟩ := bnd_e hP
    refine V_callVi (As := [.int x6, .int x8]) (rest := []) hX mk_X10_225 nk_X10_relieve (fun l => c_X10_relieve l S  hcw9) tb_0 rfl ⟨rfl, rfl, Nat.le_of_ble_eq_true rfl, Nat.le_of_ble_eq_true rfl⟩ rfl rfl (Nat.le_of_ble_eq_true rfl) dX10_act_107 ?_
    exact hR _ _ _ _ (Option.some.inj hP) rfl dX10_act_110
  replace hP := ite_f hc4 hP
  by_cases hc11 : x3 = 108
  · replace hP := ite_t hc11 hP
    refine V_lookup (tgt := 68) hX dX10_act_8 (by decide) (by rw [hc11] <;> rfl) (by decide) ?_
    refine V_aload_n hX dX10_act_68 0 rfl ?_
    refine V_aload_n hX dX10_act_69 0 rfl ?_
    refine V_getF (j := 1) hX fk_X10_10 tb_0 (fun _ _ _ => rfl) dX10_act_70 ?_
    refine V_iload_n hX dX10_act_73 1 rfl ?_
    refine V_iconst (v := 1) hX dX10_act_74 (by decide) ?_
    refine V_iadd hX dX10_act_75 ?_
    refine V_iconst (v := 1) hX dX10_act_76 (by decide) ?_
    obtain ⟨x13, w12, hcw12, hP⟩ := bnd_e hP
    refine V_callVi (As := [.int (x1 + 1), .int 1]) (rest := [rf S 0]) hX mk_X10_222 nk_X8_number (fun l => c_X8_number l S  hcw12) tb_1 rfl ⟨rfl, rfl, Nat.le_of_ble_eq_true rfl, Nat.le_of_ble_eq_true rfl⟩ rfl rfl (Nat.le_of_ble_eq_true rfl) dX10_act_77 ?_
    obtain ⟨x15, w14, hcw14, hP⟩ := bnd_e hP
    refine V_callVi (As := [.int x13]) (rest := []) hX mk_X10_190 nk_X10_letGo (fun l => c_X10_letGo l S  hcw14) tb_0 rfl ⟨rfl, rfl, Nat.le_of_ble_eq_true rfl, Nat.le_of_ble_eq_true rfl⟩ rfl rfl (Nat.le_of_ble_eq_true rfl) dX10_act_80 ?_
    exact hR _ _ _ _ (Option.some.inj hP) rfl dX10_act_83
  replace hP := ite_f hc11 hP
  by_cases hc16 : x3 = 109
  · replace hP := ite_t hc16 hP
    refine V_lookup (tgt := 111) hX dX10_act_8 (by decide) (by rw [hc16] <;> rfl) (by decide) ?_
    refine V_aload_n hX dX10_act_111 0 rfl ?_
    refine V_aload_n hX dX10_act_112 0 rfl ?_
    refine V_getF (j := 1) hX fk_X10_10 tb_0 (fun _ _ _ => rfl) dX10_act_113 ?_
    refine V_iload_n hX dX10_act_116 1 rfl ?_
    refine V_iconst (v := 1) hX dX10_act_117 (by decide) ?_
    refine V_iadd hX dX10_act_118 ?_
    refine V_iconst (v := 2) hX dX10_act_119 (by decide) ?_
    obtain ⟨x18, w17, hcw17, hP⟩ := bnd_e hP
    refine V_callVi (As := [.int (x1 + 1), .int 2]) (rest := [rf S 0]) hX mk_X10_222 nk_X8_number (fun l => c_X8_number l S  hcw17) tb_1 rfl ⟨rfl, rfl, Nat.le_of_ble_eq_true rfl, Nat.le_of_ble_eq_true rfl⟩ rfl rfl (Nat.le_of_ble_eq_true rfl) dX10_act_120 ?_
    obtain ⟨x20, w19, hcw19, hP⟩ := bnd_e hP
    refine V_callVi (As := [.int x18]) (rest := []) hX mk_X10_193 nk_X10_splice (fun l => c_X10_splice l S  hcw19) tb_0 rfl ⟨rfl, rfl, Nat.le_of_ble_eq_true rfl, Nat.le_of_ble_eq_true rfl⟩ rfl rfl (Nat.le_of_ble_eq_true rfl) dX10_act_123 ?_
    exact hR _ _ _ _ (Option.some.inj hP) rfl dX10_act_126
  replace hP := ite_f hc16 hP
  by_cases hc21 : x3 = 116
  · replace hP := ite_t hc21 hP
    refine V_lookup (tgt := 52) hX dX10_act_8 (by decide) (by rw [hc21] <;> rfl) (by decide) ?_
    refine V_aload_n hX dX10_act_52 0 rfl ?_
    refine V_aload_n hX dX10_act_53 0 rfl ?_
    refine V_getF (j := 1) hX fk_X10_10 tb_0 (fun _ _ _ => rfl) dX10_act_54 ?_
    refine V_iload_n hX dX10_act_57 1 rfl ?_
    refine V_iconst (v := 1) hX dX10_act_58 (by decide) ?_
    refine V_iadd hX dX10_act_59 ?_
    refine V_iconst (v := 1) hX dX10_act_60 (by decide) ?_
    obtain ⟨x23, w22, hcw22, hP⟩ := bnd_e hP
    refine V_callVi (As := [.int (x1 + 1), .int 1]) (rest := [rf S 0]) hX mk_X10_222 nk_X8_number (fun l => c_X8_number l S  hcw22) tb_1 rfl ⟨rfl, rfl, Nat.le_of_ble_eq_true rfl, Nat.le_of_ble_eq_true rfl⟩ rfl rfl (Nat.le_of_ble_eq_true rfl) dX10_act_61 ?_
    obtain ⟨x25, w24, hcw24, hP⟩ := bnd_e hP
    refine V_callVi (As := [.int x23]) (rest := []) hX mk_X10_184 nk_X10_grasp (fun l => c_X10_grasp l S  hcw24) tb_0 rfl ⟨rfl, rfl, Nat.le_of_ble_eq_true rfl, Nat.le_of_ble_eq_true rfl⟩ rfl rfl (Nat.le_of_ble_eq_true rfl) dX10_act_64 ?_
    exact hR _ _ _ _ (Option.some.inj hP) rfl dX10_act_67
  replace hP := ite_f hc21 hP
  refine V_lookup (tgt := 127) hX dX10_act_8 (by decide) (lk_out (by
      intro q hq
      simp only [List.mem_cons, List.not_mem_nil, or_false] at hq
      rcases hq with rfl | rfl | rfl | rfl
      · exact fun e => hc4 (i32_ext (e.trans rfl))
      · exact fun e => hc11 (i32_ext (e.trans rfl))
      · exact fun e => hc16 (i32_ext (e.trans rfl))
      · exact fun e => hc21 (i32_ext (e.trans rfl))
      )) (by decide) ?_
  refine V_aload_n hX dX10_act_127 0 rfl ?_
  refine V_aload_n hX dX10_act_128 0 rfl ?_
  refine V_getF (j := 1) hX fk_X10_10 tb_0 (fun _ _ _ => rfl) dX10_act_129 ?_
  refine V_iload_n hX dX10_act_132 1 rfl ?_
  refine V_iconst (v := 3) hX dX10_act_133 (by decide) ?_
  obtain ⟨x27, w26, hcw26, hP⟩ := bnd_e hP
  refine V_callVi (As := [.int x1, .int 3]) (rest := [rf S 0]) hX mk_X10_222 nk_X8_number (fun l => c_X8_number l S  hcw26) tb_1 rfl ⟨rfl, rfl, Nat.le_of_ble_eq_true rfl, Nat.le_of_ble_eq_true rfl⟩ rfl rfl (Nat.le_of_ble_eq_true rfl) dX10_act_134 ?_
  obtain ⟨x29, w28, hcw28, hP⟩ := bnd_e hP
  refine V_callVi (As := [.int x27]) (rest := []) hX mk_X10_196 nk_X10_pass (fun l => c_X10_pass l S  hcw28) tb_0 rfl ⟨rfl, rfl, Nat.le_of_ble_eq_true rfl, Nat.le_of_ble_eq_true rfl⟩ rfl rfl (Nat.le_of_ble_eq_true rfl) dX10_act_137 ?_
  exact hR _ _ _ _ (Option.some.inj hP) rfl dX10_act_140
theorem c_X10_act (l : Launch) (S : Sx) {r : Int32 × Wd} {F : Nat} {w : Wd} {x1 : Int32}  (h : P_X10_act F w x1 = some r) : Met l yX10_act (wsg yX10_act cX10_act 2 (some .int)) rm_X10_act (PC S w [rf S 0, .int x1]) (QCi S r) 0 0 (Aw S) :=
  met_i (by decide) rfl (Nat.le_of_ble_eq_true rfl) ⟨rfl, rfl⟩ (fun X hX hR => s_X10_act  hX hR h)

-- MustNotStop.watch()I
abbrev rm_X10_watch : Room := { frames := 8, cells := 0, slots := 0, locals := 230 }
theorem nk_X10_watch : MNk yX10_watch RX10 0 := ⟨rfl, by decide, by decide, by decide +kernel⟩
def K_X10_watch_97 (F : Nat)  (k103 : Wd → Int32 → Int32 → Option (Int32 × Wd)) (rc : Wd → Int32 → Int32 → Int32 → Option (Int32 × Wd)) (w : Wd) (x15 : Int32) (x16 : Int32) (x17 : Int32) : Option (Int32 × Wd) := lt (x17 + 1 : Int32) (fun x18 => rc w x15 x16 x18)
set_option maxRecDepth 100000 in
set_option maxHeartbeats 4000000 in
theorem sK_X10_watch_97 {X : Cx} {S : Sx} {r : Int32 × Wd} {F : Nat}  {k103 : Wd → Int32 → Int32 → Option (Int32 × Wd)} {rc : Wd → Int32 → Int32 → Int32 → Option (Int32 × Wd)} {w : Wd} {x15 : Int32} {x16 : Int32} {x17 : Int32} (hX : Ok X S cX10_watch RX10 5 rm_X10_watch) (hR : HRt X S cX10_watch .int r)  (hk103 : ∀ (w : Wd) (x8 : Int32) (x9 : Int32) , k103 w x8 x9 = some r → V X S w 103 [(0, rf S 0), (2, .int x8), (3, .int x9)] []) (hrc : ∀ (w : Wd) (x5 : Int32) (x6 : Int32) (x7 : Int32) , rc w x5 x6 x7 = some r → V X S w 42 [(0, rf S 0), (2, .int x5), (3, .int x6), (4, .int x7)] [])  (hP : K_X10_watch_97 F  k103 rc w x15 x16 x17 = some r) : V X S w 97 [(0, rf S 0), (2, .int x15), (3, .int x16), (4, .int x17)] [] := by
  unfold K_X10_watch_97 at hP
  obtain ⟨x18, ex18⟩ : ∃ y : Int32, y = x17 + 1 := ⟨_, rfl⟩
  replace hP := lt_r ex18 hP
  refine V_iinc (v := x18) (lv' := [(4, .int x18), (0, rf S 0), (2, .int x15), (3, .int x16)]) hX dX10_watch_97 (j := 3) rfl (by decide) (by rw [ex18]; rfl) rfl ?_
  refine V_goto (tgt := 42) hX dX10_watch_100 (by decide) ?_
  refine V_sub (lv' := [(0, rf S 0), (2, .int x15), (3, .int x16), (4, .int x18)]) [1, 2, 3, 0] rfl ?_
  exact hrc _ _ _ _  hP
def L_X10_watch_42 (F : Nat)  (k103 : Wd → Int32 → Int32 → Option (Int32 × Wd)) : Nat → Wd → Int32 → Int32 → Int32 → Option (Int32 × Wd)
  | 0, _, _, _, _ => none
  | n + 1, w, x5, x6, x7 => (if (gI w 1 1) ≤ x7 then k103 w x5 x6 else (if x6 = 0 then bnd (P_X0_beginsAt F w x7) (fun x13 w12 => (if x13 = 0 then K_X10_watch_97 F  k103 ((L_X10_watch_42 F  k103 n)) w12 x5 x6 x7 else bnd (P_X10_act F w12 x7) (fun x20 w19 => lt (if (0 : Int32) ≤ x20 then 0 else 1 : Int32) (fun x22 => lt (if x22 = 0 then 1 else 0 : Int32) (fun x24 => lt (x5 + x24 : Int32) (fun x25 => K_X10_watch_97 F  k103 ((L_X10_watch_42 F  k103 n)) w19 x25 x22 x7)))))) else k103 w x5 x6))
set_option maxRecDepth 100000 in
set_option maxHeartbeats 4000000 in
theorem sL_X10_watch_42 {X : Cx} {S : Sx} {r : Int32 × Wd} {F : Nat}  {k103 : Wd → Int32 → Int32 → Option (Int32 × Wd)} (hX : Ok X S cX10_watch RX10 5 rm_X10_watch) (hR : HRt X S cX10_watch .int r)  (hk103 : ∀ (w : Wd) (x8 : Int32) (x9 : Int32) , k103 w x8 x9 = some r → V X S w 103 [(0, rf S 0), (2, .int x8), (3, .int x9)] []) : ∀ (n : Nat) (w : Wd) (x5 : Int32) (x6 : Int32) (x7 : Int32) , L_X10_watch_42 F  k103 n w x5 x6 x7 = some r → V X S w 42 [(0, rf S 0), (2, .int x5), (3, .int x6), (4, .int x7)] [] := by
  intro n
  induction n with
  | zero =>
    intro w x5 x6 x7  hP
    exact nn hP
  | succ n ih =>
    intro w x5 x6 x7  hP
    rw [L_X10_watch_42] at hP
    refine V_iload hX dX10_watch_42 3 rfl ?_
    refine V_aload_n hX dX10_watch_44 0 rfl ?_
    refine V_getF (j := 1) hX fk_X10_10 tb_0 (fun _ _ _ => rfl) dX10_watch_45 ?_
    refine V_getI hX fk_X10_97 tb_1 (fun _ _ _ => rfl) dX10_watch_48 ?_
    refine V_icmp_ge (tgt := 103) hX dX10_watch_51 (by decide) (fun hc10 => ?_) (fun hc10 => ?_)
    · replace hP := ite_t hc10 hP
      refine V_sub (lv' := [(0, rf S 0), (2, .int x5), (3, .int x6)]) [0, 1, 2] rfl ?_
      exact hk103 _ _ _  hP
    · replace hP := ite_f hc10 hP
      refine V_iload_n hX dX10_watch_54 2 rfl ?_
      refine V_if_ne (tgt := 103) hX dX10_watch_55 (by decide) (fun hc11 => ?_) (fun hc11 => ?_)
      · replace hP := ite_f hc11 hP
        refine V_sub (lv' := [(0, rf S 0), (2, .int x5), (3, .int x6)]) [0, 1, 2] rfl ?_
        exact hk103 _ _ _  hP
      · replace hP := ite_t hc11 hP
        refine V_aload_n hX dX10_watch_58 0 rfl ?_
        refine V_getF (j := 1) hX fk_X10_10 tb_0 (fun _ _ _ => rfl) dX10_watch_59 ?_
        refine V_iload hX dX10_watch_62 3 rfl ?_
        obtain ⟨x13, w12, hcw12, hP⟩ := bnd_e hP
        refine V_callSi (As := [rf S 1, .int x7]) (rest := []) hX mk_X10_209 nk_X0_beginsAt (fun l => c_X0_beginsAt l S  hcw12) ⟨rfl, rfl, Nat.le_of_ble_eq_true rfl, Nat.le_of_ble_eq_true rfl⟩ rfl rfl (Nat.le_of_ble_eq_true rfl) dX10_watch_64 ?_
        refine V_if_eq (tgt := 97) hX dX10_watch_67 (by decide) (fun hc14 => ?_) (fun hc14 => ?_)
        · replace hP := ite_t hc14 hP
          exact sK_X10_watch_97 hX hR  hk103 ih  hP
        · replace hP := ite_f hc14 hP
          refine V_aload_n hX dX10_watch_70 0 rfl ?_
          refine V_iload hX dX10_watch_71 3 rfl ?_
          obtain ⟨x20, w19, hcw19, hP⟩ := bnd_e hP
          refine V_callVi (As := [.int x7]) (rest := []) hX mk_X10_213 nk_X10_act (fun l => c_X10_act l S  hcw19) tb_0 rfl ⟨rfl, rfl, Nat.le_of_ble_eq_true rfl, Nat.le_of_ble_eq_true rfl⟩ rfl rfl (Nat.le_of_ble_eq_true rfl) dX10_watch_73 ?_
          have k27 : V X S w19 84 [(0, rf S 0), (2, .int x5), (3, .int x6), (4, .int x7)] [.int (if (0 : Int32) ≤ x20 then 0 else 1)] := by
            refine V_topi (fun x22 ex22 => ?_)
            replace hP := lt_r ex22 hP
            refine V_istore_n (lv' := [(3, .int x22), (0, rf S 0), (2, .int x5), (4, .int x7)]) hX dX10_watch_84 (by decide) rfl ?_
            refine V_iload_n hX dX10_watch_85 2 rfl ?_
            refine V_iload_n hX dX10_watch_86 0 rfl ?_
            have k26 : V X S w19 95 [(3, .int x22), (0, rf S 0), (2, .int x5), (4, .int x7)] [.int (if x22 = 0 then 1 else 0), .int x5] := by
              refine V_topi (fun x24 ex24 => ?_)
              replace hP := lt_r ex24 hP
              refine V_iadd hX dX10_watch_95 ?_
              refine V_topi (fun x25 ex25 => ?_)
              replace hP := lt_r ex25 hP
              refine V_istore_n (lv' := [(2, .int x25), (3, .int x22), (0, rf S 0), (4, .int x7)]) hX dX10_watch_96 (by decide) rfl ?_
              refine V_sub (lv' := [(0, rf S 0), (2, .int x25), (3, .int x22), (4, .int x7)]) [2, 0, 1, 3] rfl ?_
              exact sK_X10_watch_97 hX hR  hk103 ih  hP
            refine V_if_eq (tgt := 94) hX dX10_watch_87 (by decide) (fun hc23 => ?_) (fun hc23 => ?_)
            · refine V_iconst (v := 1) hX dX10_watch_94 (by decide) ?_
              refine V_selT (c := x22 = 0) (b := 0) hc23 ?_
              exact k26
            · refine V_iconst (v := 0) hX dX10_watch_90 (by decide) ?_
              refine V_goto (tgt := 95) hX dX10_watch_91 (by decide) ?_
              refine V_selF (c := x22 = 0) (a := 1) hc23 ?_
              exact k26
          refine V_if_ge (tgt := 83) hX dX10_watch_76 (by decide) (fun hc21 => ?_) (fun hc21 => ?_)
          · refine V_iconst (v := 0) hX dX10_watch_83 (by decide) ?_
            refine V_selT (c := (0 : Int32) ≤ x20) (b := 1) hc21 ?_
            exact k27
          · refine V_iconst (v := 1) hX dX10_watch_79 (by decide) ?_
            refine V_goto (tgt := 84) hX dX10_watch_80 (by decide) ?_
            refine V_selF (c := (0 : Int32) ≤ x20) (a := 0) hc21 ?_
            exact k27
def K_X10_watch_126 (F : Nat)   (w : Wd) (x32 : Int32) (x33 : Int32) : Option (Int32 × Wd) := lt (if x33 = 0 then 0 else 1 : Int64) (fun x35 => bnv (P_X10_tell_ F w x35 (Int32.toInt64 ((gI w 23 6) - (gI w 27 6)))) (fun w36 => some (x32, w36)))
set_option maxRecDepth 100000 in
set_option maxHeartbeats 4000000 in
theorem sK_X10_watch_126 {X : Cx} {S : Sx} {r : Int32 × Wd} {F : Nat}   {w : Wd} {x32 : Int32} {x33 : Int32} (hX : Ok X S cX10_watch RX10 5 rm_X10_watch) (hR : HRt X S cX10_watch .int r)    (hP : K_X10_watch_126 F   w x32 x33 = some r) : V X S w 126 [(0, rf S 0), (2, .int x32), (3, .int x33)] [] := by
  unfold K_X10_watch_126 at hP
  refine V_aload_n hX dX10_watch_126 0 rfl ?_
  refine V_iload_n hX dX10_watch_127 2 rfl ?_
  have k37 : V X S w 136 [(0, rf S 0), (2, .int x32), (3, .int x33)] [.long (if x33 = 0 then 0 else 1), rf S 0] := by
    refine V_topl (fun x35 ex35 => ?_)
    replace hP := lt_r ex35 hP
    refine V_aload_n hX dX10_watch_136 0 rfl ?_
    refine V_getF (j := 23) hX fk_X10_58 tb_0 (fun _ _ _ => rfl) dX10_watch_137 ?_
    refine V_getI hX fk_X10_199 tb_23 (fun _ _ _ => rfl) dX10_watch_140 ?_
    refine V_aload_n hX dX10_watch_143 0 rfl ?_
    refine V_getF (j := 27) hX fk_X10_65 tb_0 (fun _ _ _ => rfl) dX10_watch_144 ?_
    refine V_getI hX fk_X10_199 tb_27 (fun _ _ _ => rfl) dX10_watch_147 ?_
    refine V_isub hX dX10_watch_150 ?_
    refine V_i2l hX dX10_watch_151 ?_
    obtain ⟨w36, hcw36, hP⟩ := bnv_e hP
    refine V_callVv (As := [.long x35, .long (Int32.toInt64 ((gI w 23 6) - (gI w 27 6)))]) (rest := []) hX mk_X10_202 nk_X10_tell_ (fun l => c_X10_tell_ l S  hcw36) tb_0 rfl ⟨rfl, rfl, Nat.le_of_ble_eq_true rfl, Nat.le_of_ble_eq_true rfl⟩ rfl rfl (Nat.le_of_ble_eq_true rfl) dX10_watch_152 ?_
    refine V_iload_n hX dX10_watch_155 1 rfl ?_
    exact hR _ _ _ _ (Option.some.inj hP) rfl dX10_watch_156
  refine V_if_eq (tgt := 135) hX dX10_watch_128 (by decide) (fun hc34 => ?_) (fun hc34 => ?_)
  · refine V_lconst (v := 0) hX dX10_watch_135 rfl ?_
    refine V_selTl (c := x33 = 0) (b := 1) hc34 ?_
    exact k37
  · refine V_lconst (v := 1) hX dX10_watch_131 rfl ?_
    refine V_goto (tgt := 136) hX dX10_watch_132 (by decide) ?_
    refine V_selFl (c := x33 = 0) (a := 0) hc34 ?_
    exact k37
def K_X10_watch_103 (F : Nat)   (w : Wd) (x28 : Int32) (x29 : Int32) : Option (Int32 × Wd) := lt (sI w 1 1 0) (fun w30 => (if x28 ≤ 0 then K_X10_watch_126 F   w30 x28 x29 else bnv (P_X4_push F w30 27) (fun w38 => K_X10_watch_126 F   w38 x28 x29)))
set_option maxRecDepth 100000 in
set_option maxHeartbeats 4000000 in
theorem sK_X10_watch_103 {X : Cx} {S : Sx} {r : Int32 × Wd} {F : Nat}   {w : Wd} {x28 : Int32} {x29 : Int32} (hX : Ok X S cX10_watch RX10 5 rm_X10_watch) (hR : HRt X S cX10_watch .int r)    (hP : K_X10_watch_103 F   w x28 x29 = some r) : V X S w 103 [(0, rf S 0), (2, .int x28), (3, .int x29)] [] := by
  unfold K_X10_watch_103 at hP
  refine V_aload_n hX dX10_watch_103 0 rfl ?_
  refine V_getF (j := 1) hX fk_X10_10 tb_0 (fun _ _ _ => rfl) dX10_watch_104 ?_
  refine V_iconst (v := 0) hX dX10_watch_107 (by decide) ?_
  refine V_putI hX fw_X10_97 tb_1 (fun _ _ _ => ⟨Nat.le_of_ble_eq_true rfl, rfl⟩) dX10_watch_108 (fun w30 ew30 => ?_)
  replace hP := lt_r ew30 hP
  refine V_iload_n hX dX10_watch_111 1 rfl ?_
  refine V_if_le (tgt := 126) hX dX10_watch_112 (by decide) (fun hc31 => ?_) (fun hc31 => ?_)
  · replace hP := ite_t hc31 hP
    exact sK_X10_watch_126 hX hR    hP
  · replace hP := ite_f hc31 hP
    refine V_aload_n hX dX10_watch_115 0 rfl ?_
    refine V_getF (j := 29) hX fk_X10_71 tb_0 (fun _ _ _ => rfl) dX10_watch_116 ?_
    refine V_aload_n hX dX10_watch_119 0 rfl ?_
    refine V_getF (j := 27) hX fk_X10_65 tb_0 (fun _ _ _ => rfl) dX10_watch_120 ?_
    obtain ⟨w38, hcw38, hP⟩ := bnv_e hP
    refine V_callVv (As := [rf S 27]) (rest := []) hX mk_X10_216 nk_X4_push (fun l => c_X4_push l S (by decide) hcw38) tb_29 rfl ⟨rfl, rfl, Nat.le_of_ble_eq_true rfl, Nat.le_of_ble_eq_true rfl⟩ rfl rfl (Nat.le_of_ble_eq_true rfl) dX10_watch_123 ?_
    exact sK_X10_watch_126 hX hR    hP
def P_X10_watch (F : Nat) (w : Wd)  : Option (Int32 × Wd) := bnd (P_X0_faultIn F w ) (fun x2 w1 => (if x2 < 0 then bnv (P_X1_copy F w1 27 23) (fun w4 => L_X10_watch_42 F  (fun w x8 x9 => K_X10_watch_103 F   w x8 x9) F w4 0 0 0) else lt (sI w1 1 1 0) (fun w40 => some (((-1)) - x2, w40))))
set_option maxRecDepth 100000 in
set_option maxHeartbeats 4000000 in
theorem s_X10_watch {X : Cx} {S : Sx} {r : Int32 × Wd} {F : Nat} {w : Wd}   (hX : Ok X S cX10_watch RX10 5 rm_X10_watch) (hR : HRt X S cX10_watch .int r) (hP : P_X10_watch F w  = some r) : V X S w 0 [(0, rf S 0)] [] := by
  unfold P_X10_watch at hP
  refine V_aload_n hX dX10_watch_0 0 rfl ?_
  refine V_getF (j := 1) hX fk_X10_10 tb_0 (fun _ _ _ => rfl) dX10_watch_1 ?_
  obtain ⟨x2, w1, hcw1, hP⟩ := bnd_e hP
  refine V_callSi (As := [rf S 1]) (rest := []) hX mk_X10_206 nk_X0_faultIn (fun l => c_X0_faultIn l S  hcw1) ⟨rfl, rfl, Nat.le_of_ble_eq_true rfl, Nat.le_of_ble_eq_true rfl⟩ rfl rfl (Nat.le_of_ble_eq_true rfl) dX10_watch_4 ?_
  refine V_istore_n (lv' := [(1, .int x2), (0, rf S 0)]) hX dX10_watch_7 (by decide) rfl ?_
  refine V_iload_n hX dX10_watch_8 0 rfl ?_
  refine V_if_lt (tgt := 24) hX dX10_watch_9 (by decide) (fun hc3 => ?_) (fun hc3 => ?_)
  · replace hP := ite_t hc3 hP
    refine V_aload_n hX dX10_watch_24 1 rfl ?_
    refine V_getF (j := 27) hX fk_X10_65 tb_0 (fun _ _ _ => rfl) dX10_watch_25 ?_
    refine V_aload_n hX dX10_watch_28 1 rfl ?_
    refine V_getF (j := 23) hX fk_X10_58 tb_0 (fun _ _ _ => rfl) dX10_watch_29 ?_
    obtain ⟨w4, hcw4, hP⟩ := bnv_e hP
    refine V_callVv (As := [rf S 23]) (rest := []) hX mk_X10_180 nk_X1_copy (fun l => c_X1_copy l S (by decide) (by decide) hcw4) tb_27 rfl ⟨rfl, rfl, Nat.le_of_ble_eq_true rfl, Nat.le_of_ble_eq_true rfl⟩ rfl rfl (Nat.le_of_ble_eq_true rfl) dX10_watch_32 ?_
    refine V_iconst (v := 0) hX dX10_watch_35 (by decide) ?_
    refine V_istore_n (lv' := [(2, .int 0), (1, .int x2), (0, rf S 0)]) hX dX10_watch_36 (by decide) rfl ?_
    refine V_iconst (v := 0) hX dX10_watch_37 (by decide) ?_
    refine V_istore_n (lv' := [(3, .int 0), (2, .int 0), (1, .int x2), (0, rf S 0)]) hX dX10_watch_38 (by decide) rfl ?_
    refine V_iconst (v := 0) hX dX10_watch_39 (by decide) ?_
    refine V_istore (lv' := [(4, .int 0), (3, .int 0), (2, .int 0), (1, .int x2), (0, rf S 0)]) hX dX10_watch_40 (by decide) rfl ?_
    refine V_sub (lv' := [(0, rf S 0), (2, .int 0), (3, .int 0), (4, .int 0)]) [4, 2, 1, 0] rfl ?_
    have k39 : ∀ (w : Wd) (x8 : Int32) (x9 : Int32) , (K_X10_watch_103 F   w x8 x9) = some r → V X S w 103 [(0, rf S 0), (2, .int x8), (3, .int x9)] [] := by
      intro w x8 x9  hP
      exact sK_X10_watch_103 hX hR    hP
    exact sL_X10_watch_42 hX hR  k39 F _ _ _ _  hP
  · replace hP := ite_f hc3 hP
    refine V_aload_n hX dX10_watch_12 1 rfl ?_
    refine V_getF (j := 1) hX fk_X10_10 tb_0 (fun _ _ _ => rfl) dX10_watch_13 ?_
    refine V_iconst (v := 0) hX dX10_watch_16 (by decide) ?_
    refine V_putI hX fw_X10_97 tb_1 (fun _ _ _ => ⟨Nat.le_of_ble_eq_true rfl, rfl⟩) dX10_watch_17 (fun w40 ew40 => ?_)
    replace hP := lt_r ew40 hP
    refine V_iconst (v := (-1)) hX dX10_watch_20 (by decide) ?_
    refine V_iload_n hX dX10_watch_21 0 rfl ?_
    refine V_isub hX dX10_watch_22 ?_
    exact hR _ _ _ _ (Option.some.inj hP) rfl dX10_watch_23
theorem c_X10_watch (l : Launch) (S : Sx) {r : Int32 × Wd} {F : Nat} {w : Wd}   (h : P_X10_watch F w  = some r) : Met l yX10_watch (wsg yX10_watch cX10_watch 5 (some .int)) rm_X10_watch (PC S w [rf S 0]) (QCi S r) 0 0 (Aw S) :=
  met_i (by decide) rfl (Nat.le_of_ble_eq_true rfl) ⟨rfl, rfl⟩ (fun X hX hR => s_X10_watch  hX hR h)

-- MustNotStop.undo()I
abbrev rm_X10_undo : Room := { frames := 3, cells := 0, slots := 0, locals := 108 }
theorem nk_X10_undo : MNk yX10_undo RX10 0 := ⟨rfl, by decide, by decide, by decide +kernel⟩
def P_X10_undo (F : Nat) (w : Wd)  : Option (Int32 × Wd) := bnd (P_X4_pop F w 23) (fun x2 w1 => some (x2, w1))
set_option maxRecDepth 100000 in
set_option maxHeartbeats 4000000 in
theorem s_X10_undo {X : Cx} {S : Sx} {r : Int32 × Wd} {F : Nat} {w : Wd}   (hX : Ok X S cX10_undo RX10 1 rm_X10_undo) (hR : HRt X S cX10_undo .int r) (hP : P_X10_undo F w  = some r) : V X S w 0 [(0, rf S 0)] [] := by
  unfold P_X10_undo at hP
  refine V_aload_n hX dX10_undo_0 0 rfl ?_
  refine V_getF (j := 29) hX fk_X10_71 tb_0 (fun _ _ _ => rfl) dX10_undo_1 ?_
  refine V_aload_n hX dX10_undo_4 0 rfl ?_
  refine V_getF (j := 23) hX fk_X10_58 tb_0 (fun _ _ _ => rfl) dX10_undo_5 ?_
  obtain ⟨x2, w1, hcw1, hP⟩ := bnd_e hP
  refine V_callVi (As := [rf S 23]) (rest := []) hX mk_X10_242 nk_X4_pop (fun l => c_X4_pop l S (by decide) hcw1) tb_29 rfl ⟨rfl, rfl, Nat.le_of_ble_eq_true rfl, Nat.le_of_ble_eq_true rfl⟩ rfl rfl (Nat.le_of_ble_eq_true rfl) dX10_undo_8 ?_
  exact hR _ _ _ _ (Option.some.inj hP) rfl dX10_undo_11
theorem c_X10_undo (l : Launch) (S : Sx) {r : Int32 × Wd} {F : Nat} {w : Wd}   (h : P_X10_undo F w  = some r) : Met l yX10_undo (wsg yX10_undo cX10_undo 1 (some .int)) rm_X10_undo (PC S w [rf S 0]) (QCi S r) 0 0 (Aw S) :=
  met_i (by decide) rfl (Nat.le_of_ble_eq_true rfl) ⟨rfl, rfl⟩ (fun X hX hR => s_X10_undo  hX hR h)

-- MustNotStop.firstStop(LMustNotStop$Tower;)I
abbrev rm_X10_firstStop : Room := { frames := 5, cells := 0, slots := 0, locals := 165 }
theorem nk_X10_firstStop : MNk yX10_firstStop RX10 1 := ⟨rfl, by decide, by decide, by decide +kernel⟩
def L_X10_firstStop_13 (F : Nat) (a1 : Nat) (k54 : Wd → Option (Int32 × Wd)) : Nat → Wd → Int32 → Option (Int32 × Wd)
  | 0, _, _ => none
  | n + 1, w, x3 => (if (999 : Int32) < x3 then k54 w  else bnd (P_X9_ring F w a1 25) (fun x6 w5 => (if (gI w5 25 6) ≤ (gI w5 23 6) then lt (x3 + 1 : Int32) (fun x8 => L_X10_firstStop_13 F a1 k54 n w5 x8) else some (x3, w5))))
set_option maxRecDepth 100000 in
set_option maxHeartbeats 4000000 in
theorem sL_X10_firstStop_13 {X : Cx} {S : Sx} {r : Int32 × Wd} {F : Nat} {a1 : Nat} {k54 : Wd → Option (Int32 × Wd)} (hX : Ok X S cX10_firstStop RX10 3 rm_X10_firstStop) (hR : HRt X S cX10_firstStop .int r) (ha1 : isX9 a1 = true) (hk54 : ∀ (w : Wd), k54 w = some r → V X S w 54 [] []) : ∀ (n : Nat) (w : Wd) (x3 : Int32) , L_X10_firstStop_13 F a1 k54 n w x3 = some r → V X S w 13 [(0, rf S 0), (1, rf S a1), (2, .int x3)] [] := by
  intro n
  induction n with
  | zero =>
    intro w x3  hP
    exact nn hP
  | succ n ih =>
    intro w x3  hP
    rw [L_X10_firstStop_13] at hP
    refine V_iload_n hX dX10_firstStop_13 2 rfl ?_
    refine V_sipush (v := 999) hX dX10_firstStop_14 (by decide) ?_
    refine V_icmp_gt (tgt := 54) hX dX10_firstStop_17 (by decide) (fun hc4 => ?_) (fun hc4 => ?_)
    · replace hP := ite_t hc4 hP
      refine V_sub (lv' := []) [] rfl ?_
      exact hk54 _   hP
    · replace hP := ite_f hc4 hP
      refine V_aload_n hX dX10_firstStop_20 1 rfl ?_
      refine V_aload_n hX dX10_firstStop_21 0 rfl ?_
      refine V_getF (j := 25) hX fk_X10_62 tb_0 (fun _ _ _ => rfl) dX10_firstStop_22 ?_
      obtain ⟨x6, w5, hcw5, hP⟩ := bnd_e hP
      refine V_callVi (As := [rf S 25]) (rest := []) hX mk_X10_253 nk_X9_ring (fun l => c_X9_ring l S ha1 (by decide) hcw5) (tb_X9 ha1) rfl ⟨rfl, rfl, Nat.le_of_ble_eq_true rfl, Nat.le_of_ble_eq_true rfl⟩ rfl rfl (Nat.le_of_ble_eq_true rfl) dX10_firstStop_25 ?_
      refine V_pop hX dX10_firstStop_28 rfl ?_
      refine V_aload_n hX dX10_firstStop_29 0 rfl ?_
      refine V_getF (j := 25) hX fk_X10_62 tb_0 (fun _ _ _ => rfl) dX10_firstStop_30 ?_
      refine V_getI hX fk_X10_199 tb_25 (fun _ _ _ => rfl) dX10_firstStop_33 ?_
      refine V_aload_n hX dX10_firstStop_36 0 rfl ?_
      refine V_getF (j := 23) hX fk_X10_58 tb_0 (fun _ _ _ => rfl) dX10_firstStop_37 ?_
      refine V_getI hX fk_X10_199 tb_23 (fun _ _ _ => rfl) dX10_firstStop_40 ?_
      refine V_icmp_le (tgt := 48) hX dX10_firstStop_43 (by decide) (fun hc7 => ?_) (fun hc7 => ?_)
      · replace hP := ite_t hc7 hP
        obtain ⟨x8, ex8⟩ : ∃ y : Int32, y = x3 + 1 := ⟨_, rfl⟩
        replace hP := lt_r ex8 hP
        refine V_iinc (v := x8) (lv' := [(2, .int x8), (0, rf S 0), (1, rf S a1)]) hX dX10_firstStop_48 (j := 2) rfl (by decide) (by rw [ex8]; rfl) rfl ?_
        refine V_goto (tgt := 13) hX dX10_firstStop_51 (by decide) ?_
        refine V_sub (lv' := [(0, rf S 0), (1, rf S a1), (2, .int x8)]) [1, 2, 0] rfl ?_
        exact ih _ _  hP
      · replace hP := ite_f hc7 hP
        refine V_iload_n hX dX10_firstStop_46 2 rfl ?_
        exact hR _ _ _ _ (Option.some.inj hP) rfl dX10_firstStop_47
def P_X10_firstStop (F : Nat) (w : Wd) (a1 : Nat) : Option (Int32 × Wd) := bnv (P_X1_copy F w 25 23) (fun w2 => L_X10_firstStop_13 F a1 (fun w  => some (1000, w)) F w2 1)
set_option maxRecDepth 100000 in
set_option maxHeartbeats 4000000 in
theorem s_X10_firstStop {X : Cx} {S : Sx} {r : Int32 × Wd} {F : Nat} {w : Wd} {a1 : Nat} (ha1 : isX9 a1 = true) (hX : Ok X S cX10_firstStop RX10 3 rm_X10_firstStop) (hR : HRt X S cX10_firstStop .int r) (hP : P_X10_firstStop F w a1 = some r) : V X S w 0 [(0, rf S 0), (1, rf S a1)] [] := by
  unfold P_X10_firstStop at hP
  refine V_aload_n hX dX10_firstStop_0 0 rfl ?_
  refine V_getF (j := 25) hX fk_X10_62 tb_0 (fun _ _ _ => rfl) dX10_firstStop_1 ?_
  refine V_aload_n hX dX10_firstStop_4 0 rfl ?_
  refine V_getF (j := 23) hX fk_X10_58 tb_0 (fun _ _ _ => rfl) dX10_firstStop_5 ?_
  obtain ⟨w2, hcw2, hP⟩ := bnv_e hP
  refine V_callVv (As := [rf S 23]) (rest := []) hX mk_X10_180 nk_X1_copy (fun l => c_X1_copy l S (by decide) (by decide) hcw2) tb_25 rfl ⟨rfl, rfl, Nat.le_of_ble_eq_true rfl, Nat.le_of_ble_eq_true rfl⟩ rfl rfl (Nat.le_of_ble_eq_true rfl) dX10_firstStop_8 ?_
  refine V_iconst (v := 1) hX dX10_firstStop_11 (by decide) ?_
  refine V_istore_n (lv' := [(2, .int 1), (0, rf S 0), (1, rf S a1)]) hX dX10_firstStop_12 (by decide) rfl ?_
  refine V_sub (lv' := [(0, rf S 0), (1, rf S a1), (2, .int 1)]) [1, 2, 0] rfl ?_
  have k9 : ∀ (w : Wd)  , (some (1000, w)) = some r → V X S w 54 [] [] := by
    intro w   hP
    refine V_sipush (v := 1000) hX dX10_firstStop_54 (by decide) ?_
    exact hR _ _ _ _ (Option.some.inj hP) rfl dX10_firstStop_57
  exact sL_X10_firstStop_13 hX hR ha1 k9 F _ _  hP
theorem c_X10_firstStop (l : Launch) (S : Sx) {r : Int32 × Wd} {F : Nat} {w : Wd} {a1 : Nat} (ha1 : isX9 a1 = true) (h : P_X10_firstStop F w a1 = some r) : Met l yX10_firstStop (wsg yX10_firstStop cX10_firstStop 3 (some .int)) rm_X10_firstStop (PC S w [rf S 0, rf S a1]) (QCi S r) 0 0 (Aw S) :=
  met_i (by decide) rfl (Nat.le_of_ble_eq_true rfl) ⟨rfl, rfl⟩ (fun X hX hR => s_X10_firstStop ha1 hX hR h)

-- MustNotStop.lasts()I
abbrev rm_X10_lasts : Room := { frames := 6, cells := 0, slots := 0, locals := 187 }
theorem nk_X10_lasts : MNk yX10_lasts RX10 0 := ⟨rfl, by decide, by decide, by decide +kernel⟩
def P_X10_lasts (F : Nat) (w : Wd)  : Option (Int32 × Wd) := bnd (P_X10_firstStop F w 5) (fun x2 w1 => (if x2 ≤ 999 then bnv (P_X10_tell_ F w1 (Int32.toInt64 ((gI w1 25 4) - (gI w1 23 4))) (Int32.toInt64 ((gI w1 25 7) - (gI w1 23 7)))) (fun w4 => some (x2, w4)) else some ((-2), w1)))
set_option maxRecDepth 100000 in
set_option maxHeartbeats 4000000 in
theorem s_X10_lasts {X : Cx} {S : Sx} {r : Int32 × Wd} {F : Nat} {w : Wd}   (hX : Ok X S cX10_lasts RX10 2 rm_X10_lasts) (hR : HRt X S cX10_lasts .int r) (hP : P_X10_lasts F w  = some r) : V X S w 0 [(0, rf S 0)] [] := by
  unfold P_X10_lasts at hP
  refine V_aload_n hX dX10_lasts_0 0 rfl ?_
  refine V_aload_n hX dX10_lasts_1 0 rfl ?_
  refine V_getF (j := 5) hX fk_X10_34 tb_0 (fun _ _ _ => rfl) dX10_lasts_2 ?_
  obtain ⟨x2, w1, hcw1, hP⟩ := bnd_e hP
  refine V_callVi (As := [rf S 5]) (rest := []) hX mk_X10_246 nk_X10_firstStop (fun l => c_X10_firstStop l S (by decide) hcw1) tb_0 rfl ⟨rfl, rfl, Nat.le_of_ble_eq_true rfl, Nat.le_of_ble_eq_true rfl⟩ rfl rfl (Nat.le_of_ble_eq_true rfl) dX10_lasts_5 ?_
  refine V_istore_n (lv' := [(1, .int x2), (0, rf S 0)]) hX dX10_lasts_8 (by decide) rfl ?_
  refine V_iload_n hX dX10_lasts_9 0 rfl ?_
  refine V_sipush (v := 999) hX dX10_lasts_10 (by decide) ?_
  refine V_icmp_le (tgt := 19) hX dX10_lasts_13 (by decide) (fun hc3 => ?_) (fun hc3 => ?_)
  · replace hP := ite_t hc3 hP
    refine V_aload_n hX dX10_lasts_19 1 rfl ?_
    refine V_aload_n hX dX10_lasts_20 1 rfl ?_
    refine V_getF (j := 25) hX fk_X10_62 tb_0 (fun _ _ _ => rfl) dX10_lasts_21 ?_
    refine V_getI hX fk_X10_236 tb_25 (fun _ _ _ => rfl) dX10_lasts_24 ?_
    refine V_aload_n hX dX10_lasts_27 1 rfl ?_
    refine V_getF (j := 23) hX fk_X10_58 tb_0 (fun _ _ _ => rfl) dX10_lasts_28 ?_
    refine V_getI hX fk_X10_236 tb_23 (fun _ _ _ => rfl) dX10_lasts_31 ?_
    refine V_isub hX dX10_lasts_34 ?_
    refine V_i2l hX dX10_lasts_35 ?_
    refine V_aload_n hX dX10_lasts_36 1 rfl ?_
    refine V_getF (j := 25) hX fk_X10_62 tb_0 (fun _ _ _ => rfl) dX10_lasts_37 ?_
    refine V_getI hX fk_X10_250 tb_25 (fun _ _ _ => rfl) dX10_lasts_40 ?_
    refine V_aload_n hX dX10_lasts_43 1 rfl ?_
    refine V_getF (j := 23) hX fk_X10_58 tb_0 (fun _ _ _ => rfl) dX10_lasts_44 ?_
    refine V_getI hX fk_X10_250 tb_23 (fun _ _ _ => rfl) dX10_lasts_47 ?_
    refine V_isub hX dX10_lasts_50 ?_
    refine V_i2l hX dX10_lasts_51 ?_
    obtain ⟨w4, hcw4, hP⟩ := bnv_e hP
    refine V_callVv (As := [.long (Int32.toInt64 ((gI w1 25 4) - (gI w1 23 4))), .long (Int32.toInt64 ((gI w1 25 7) - (gI w1 23 7)))]) (rest := []) hX mk_X10_202 nk_X10_tell_ (fun l => c_X10_tell_ l S  hcw4) tb_0 rfl ⟨rfl, rfl, Nat.le_of_ble_eq_true rfl, Nat.le_of_ble_eq_true rfl⟩ rfl rfl (Nat.le_of_ble_eq_true rfl) dX10_lasts_52 ?_
    refine V_iload_n hX dX10_lasts_55 0 rfl ?_
    exact hR _ _ _ _ (Option.some.inj hP) rfl dX10_lasts_56
  · replace hP := ite_f hc3 hP
    refine V_bipush (v := (-2)) hX dX10_lasts_16 (by decide) ?_
    exact hR _ _ _ _ (Option.some.inj hP) rfl dX10_lasts_18
theorem c_X10_lasts (l : Launch) (S : Sx) {r : Int32 × Wd} {F : Nat} {w : Wd}   (h : P_X10_lasts F w  = some r) : Met l yX10_lasts (wsg yX10_lasts cX10_lasts 2 (some .int)) rm_X10_lasts (PC S w [rf S 0]) (QCi S r) 0 0 (Aw S) :=
  met_i (by decide) rfl (Nat.le_of_ble_eq_true rfl) ⟨rfl, rfl⟩ (fun X hX hR => s_X10_lasts  hX hR h)

-- MustNotStop.tell(J)V
abbrev rm_X10_tell : Room := { frames := 2, cells := 0, slots := 0, locals := 86 }
theorem nk_X10_tell : MNk yX10_tell RX10 1 := ⟨rfl, by decide, by decide, by decide +kernel⟩
def P_X10_tell (F : Nat) (w : Wd) (x1 : Int64) : Option (Wd) := bnv (P_X7_clear F w ) (fun w2 => bnv (P_X7_add F w2 x1) (fun w3 => some w3))
set_option maxRecDepth 100000 in
set_option maxHeartbeats 4000000 in
theorem s_X10_tell {X : Cx} {S : Sx} {r : Wd} {F : Nat} {w : Wd} {x1 : Int64}  (hX : Ok X S cX10_tell RX10 3 rm_X10_tell) (hR : HRv X S cX10_tell r) (hP : P_X10_tell F w x1 = some r) : V X S w 0 [(0, rf S 0), (1, .long x1)] [] := by
  unfold P_X10_tell at hP
  refine V_aload_n hX dX10_tell_0 0 rfl ?_
  refine V_getF (j := 3) hX fk_X10_19 tb_0 (fun _ _ _ => rfl) dX10_tell_1 ?_
  obtain ⟨w2, hcw2, hP⟩ := bnv_e hP
  refine V_callVv (As := []) (rest := []) hX mk_X10_289 nk_X7_clear (fun l => c_X7_clear l S  hcw2) tb_3 rfl ⟨rfl, rfl, Nat.le_of_ble_eq_true rfl, Nat.le_of_ble_eq_true rfl⟩ rfl rfl (Nat.le_of_ble_eq_true rfl) dX10_tell_4 ?_
  refine V_aload_n hX dX10_tell_7 0 rfl ?_
  refine V_getF (j := 3) hX fk_X10_19 tb_0 (fun _ _ _ => rfl) dX10_tell_8 ?_
  refine V_lload_n hX dX10_tell_11 1 rfl ?_
  obtain ⟨w3, hcw3, hP⟩ := bnv_e hP
  refine V_callVv (As := [.long x1]) (rest := []) hX mk_X10_293 nk_X7_add (fun l => c_X7_add l S  hcw3) tb_3 rfl ⟨rfl, rfl, Nat.le_of_ble_eq_true rfl, Nat.le_of_ble_eq_true rfl⟩ rfl rfl (Nat.le_of_ble_eq_true rfl) dX10_tell_12 ?_
  exact hR _ _ _ (Option.some.inj hP) dX10_tell_15
theorem c_X10_tell (l : Launch) (S : Sx) {r : Wd} {F : Nat} {w : Wd} {x1 : Int64}  (h : P_X10_tell F w x1 = some r) : Met l yX10_tell (wsg yX10_tell cX10_tell 3 none) rm_X10_tell (PC S w [rf S 0, .long x1]) (QCv S r) 0 0 (Aw S) :=
  met_v (by decide) rfl (Nat.le_of_ble_eq_true rfl) ⟨rfl, rfl⟩ (fun X hX hR => s_X10_tell  hX hR h)

-- MustNotStop.hush()I
abbrev rm_X10_hush : Room := { frames := 6, cells := 0, slots := 0, locals := 188 }
theorem nk_X10_hush : MNk yX10_hush RX10 0 := ⟨rfl, by decide, by decide, by decide +kernel⟩
def P_X10_hush (F : Nat) (w : Wd)  : Option (Int32 × Wd) := bnv (P_X1_copy F w 25 23) (fun w1 => bnd (P_X9_rungOn F w1 5 25 999) (fun x3 w2 => (if x3 = 999 then some ((-2), w2) else bnv (P_X10_tell F w2 (Int32.toInt64 (gI w2 25 5))) (fun w5 => some (x3, w5)))))
set_option maxRecDepth 100000 in
set_option maxHeartbeats 4000000 in
theorem s_X10_hush {X : Cx} {S : Sx} {r : Int32 × Wd} {F : Nat} {w : Wd}   (hX : Ok X S cX10_hush RX10 2 rm_X10_hush) (hR : HRt X S cX10_hush .int r) (hP : P_X10_hush F w  = some r) : V X S w 0 [(0, rf S 0)] [] := by
  unfold P_X10_hush at hP
  refine V_aload_n hX dX10_hush_0 0 rfl ?_
  refine V_getF (j := 25) hX fk_X10_62 tb_0 (fun _ _ _ => rfl) dX10_hush_1 ?_
  refine V_aload_n hX dX10_hush_4 0 rfl ?_
  refine V_getF (j := 23) hX fk_X10_58 tb_0 (fun _ _ _ => rfl) dX10_hush_5 ?_
  obtain ⟨w1, hcw1, hP⟩ := bnv_e hP
  refine V_callVv (As := [rf S 23]) (rest := []) hX mk_X10_180 nk_X1_copy (fun l => c_X1_copy l S (by decide) (by decide) hcw1) tb_25 rfl ⟨rfl, rfl, Nat.le_of_ble_eq_true rfl, Nat.le_of_ble_eq_true rfl⟩ rfl rfl (Nat.le_of_ble_eq_true rfl) dX10_hush_8 ?_
  refine V_aload_n hX dX10_hush_11 0 rfl ?_
  refine V_getF (j := 5) hX fk_X10_34 tb_0 (fun _ _ _ => rfl) dX10_hush_12 ?_
  refine V_aload_n hX dX10_hush_15 0 rfl ?_
  refine V_getF (j := 25) hX fk_X10_62 tb_0 (fun _ _ _ => rfl) dX10_hush_16 ?_
  refine V_sipush (v := 999) hX dX10_hush_19 (by decide) ?_
  obtain ⟨x3, w2, hcw2, hP⟩ := bnd_e hP
  refine V_callVi (As := [rf S 25, .int 999]) (rest := []) hX mk_X10_257 nk_X9_rungOn (fun l => c_X9_rungOn l S (by decide) (by decide) hcw2) tb_5 rfl ⟨rfl, rfl, Nat.le_of_ble_eq_true rfl, Nat.le_of_ble_eq_true rfl⟩ rfl rfl (Nat.le_of_ble_eq_true rfl) dX10_hush_22 ?_
  refine V_istore_n (lv' := [(1, .int x3), (0, rf S 0)]) hX dX10_hush_25 (by decide) rfl ?_
  refine V_iload_n hX dX10_hush_26 0 rfl ?_
  refine V_sipush (v := 999) hX dX10_hush_27 (by decide) ?_
  refine V_icmp_ne (tgt := 36) hX dX10_hush_30 (by decide) (fun hc4 => ?_) (fun hc4 => ?_)
  · replace hP := ite_f hc4 hP
    refine V_aload_n hX dX10_hush_36 1 rfl ?_
    refine V_aload_n hX dX10_hush_37 1 rfl ?_
    refine V_getF (j := 25) hX fk_X10_62 tb_0 (fun _ _ _ => rfl) dX10_hush_38 ?_
    refine V_getI hX fk_X10_260 tb_25 (fun _ _ _ => rfl) dX10_hush_41 ?_
    refine V_i2l hX dX10_hush_44 ?_
    obtain ⟨w5, hcw5, hP⟩ := bnv_e hP
    refine V_callVv (As := [.long (Int32.toInt64 (gI w2 25 5))]) (rest := []) hX mk_X10_263 nk_X10_tell (fun l => c_X10_tell l S  hcw5) tb_0 rfl ⟨rfl, rfl, Nat.le_of_ble_eq_true rfl, Nat.le_of_ble_eq_true rfl⟩ rfl rfl (Nat.le_of_ble_eq_true rfl) dX10_hush_45 ?_
    refine V_iload_n hX dX10_hush_48 0 rfl ?_
    exact hR _ _ _ _ (Option.some.inj hP) rfl dX10_hush_49
  · replace hP := ite_t hc4 hP
    refine V_bipush (v := (-2)) hX dX10_hush_33 (by decide) ?_
    exact hR _ _ _ _ (Option.some.inj hP) rfl dX10_hush_35
theorem c_X10_hush (l : Launch) (S : Sx) {r : Int32 × Wd} {F : Nat} {w : Wd}   (h : P_X10_hush F w  = some r) : Met l yX10_hush (wsg yX10_hush cX10_hush 2 (some .int)) rm_X10_hush (PC S w [rf S 0]) (QCi S r) 0 0 (Aw S) :=
  met_i (by decide) rfl (Nat.le_of_ble_eq_true rfl) ⟨rfl, rfl⟩ (fun X hX hR => s_X10_hush  hX hR h)

-- MustNotStop.ringsAlone(II)I
abbrev rm_X10_ringsAlone : Room := { frames := 6, cells := 0, slots := 0, locals := 188 }
theorem nk_X10_ringsAlone : MNk yX10_ringsAlone RX10 2 := ⟨rfl, by decide, by decide, by decide +kernel⟩
def P_X10_ringsAlone (F : Nat) (w : Wd) (x1 : Int32) (x2 : Int32) : Option (Int32 × Wd) := bnv (P_X1_copy F w 25 23) (fun w3 => lt (sI w3 25 1 x1) (fun w4 => bnd (P_X9_rungOn F w4 5 25 x2) (fun x6 w5 => some (x6, w5))))
set_option maxRecDepth 100000 in
set_option maxHeartbeats 4000000 in
theorem s_X10_ringsAlone {X : Cx} {S : Sx} {r : Int32 × Wd} {F : Nat} {w : Wd} {x1 : Int32} {x2 : Int32}  (hX : Ok X S cX10_ringsAlone RX10 3 rm_X10_ringsAlone) (hR : HRt X S cX10_ringsAlone .int r) (hP : P_X10_ringsAlone F w x1 x2 = some r) : V X S w 0 [(0, rf S 0), (1, .int x1), (2, .int x2)] [] := by
  unfold P_X10_ringsAlone at hP
  refine V_aload_n hX dX10_ringsAlone_0 0 rfl ?_
  refine V_getF (j := 25) hX fk_X10_62 tb_0 (fun _ _ _ => rfl) dX10_ringsAlone_1 ?_
  refine V_aload_n hX dX10_ringsAlone_4 0 rfl ?_
  refine V_getF (j := 23) hX fk_X10_58 tb_0 (fun _ _ _ => rfl) dX10_ringsAlone_5 ?_
  obtain ⟨w3, hcw3, hP⟩ := bnv_e hP
  refine V_callVv (As := [rf S 23]) (rest := []) hX mk_X10_180 nk_X1_copy (fun l => c_X1_copy l S (by decide) (by decide) hcw3) tb_25 rfl ⟨rfl, rfl, Nat.le_of_ble_eq_true rfl, Nat.le_of_ble_eq_true rfl⟩ rfl rfl (Nat.le_of_ble_eq_true rfl) dX10_ringsAlone_8 ?_
  refine V_aload_n hX dX10_ringsAlone_11 0 rfl ?_
  refine V_getF (j := 25) hX fk_X10_62 tb_0 (fun _ _ _ => rfl) dX10_ringsAlone_12 ?_
  refine V_iload_n hX dX10_ringsAlone_15 1 rfl ?_
  refine V_putI hX fw_X10_148 tb_25 (fun _ _ _ => ⟨Nat.le_of_ble_eq_true rfl, rfl⟩) dX10_ringsAlone_16 (fun w4 ew4 => ?_)
  replace hP := lt_r ew4 hP
  refine V_aload_n hX dX10_ringsAlone_19 0 rfl ?_
  refine V_getF (j := 5) hX fk_X10_34 tb_0 (fun _ _ _ => rfl) dX10_ringsAlone_20 ?_
  refine V_aload_n hX dX10_ringsAlone_23 0 rfl ?_
  refine V_getF (j := 25) hX fk_X10_62 tb_0 (fun _ _ _ => rfl) dX10_ringsAlone_24 ?_
  refine V_iload_n hX dX10_ringsAlone_27 2 rfl ?_
  obtain ⟨x6, w5, hcw5, hP⟩ := bnd_e hP
  refine V_callVi (As := [rf S 25, .int x2]) (rest := []) hX mk_X10_257 nk_X9_rungOn (fun l => c_X9_rungOn l S (by decide) (by decide) hcw5) tb_5 rfl ⟨rfl, rfl, Nat.le_of_ble_eq_true rfl, Nat.le_of_ble_eq_true rfl⟩ rfl rfl (Nat.le_of_ble_eq_true rfl) dX10_ringsAlone_28 ?_
  exact hR _ _ _ _ (Option.some.inj hP) rfl dX10_ringsAlone_31
theorem c_X10_ringsAlone (l : Launch) (S : Sx) {r : Int32 × Wd} {F : Nat} {w : Wd} {x1 : Int32} {x2 : Int32}  (h : P_X10_ringsAlone F w x1 x2 = some r) : Met l yX10_ringsAlone (wsg yX10_ringsAlone cX10_ringsAlone 3 (some .int)) rm_X10_ringsAlone (PC S w [rf S 0, .int x1, .int x2]) (QCi S r) 0 0 (Aw S) :=
  met_i (by decide) rfl (Nat.le_of_ble_eq_true rfl) ⟨rfl, rfl⟩ (fun X hX hR => s_X10_ringsAlone  hX hR h)

-- MustNotStop.cheapestTeam(II)I
abbrev rm_X10_cheapestTeam : Room := { frames := 7, cells := 0, slots := 0, locals := 210 }
theorem nk_X10_cheapestTeam : MNk yX10_cheapestTeam RX10 2 := ⟨rfl, by decide, by decide, by decide +kernel⟩
def K_X10_cheapestTeam_85 (F : Nat) (x1 : Int32) (x2 : Int32) (k91 : Wd → Int32 → Option (Int32 × Wd)) (rc : Wd → Int32 → Int32 → Option (Int32 × Wd)) (w : Wd) (x18 : Int32) (x19 : Int32) : Option (Int32 × Wd) := lt (x19 + 1 : Int32) (fun x20 => rc w x18 x20)
set_option maxRecDepth 100000 in
set_option maxHeartbeats 4000000 in
theorem sK_X10_cheapestTeam_85 {X : Cx} {S : Sx} {r : Int32 × Wd} {F : Nat} {x1 : Int32} {x2 : Int32} {k91 : Wd → Int32 → Option (Int32 × Wd)} {rc : Wd → Int32 → Int32 → Option (Int32 × Wd)} {w : Wd} {x18 : Int32} {x19 : Int32} (hX : Ok X S cX10_cheapestTeam RX10 6 rm_X10_cheapestTeam) (hR : HRt X S cX10_cheapestTeam .int r)  (hk91 : ∀ (w : Wd) (x5 : Int32) , k91 w x5 = some r → V X S w 91 [(3, .int x5)] []) (hrc : ∀ (w : Wd) (x3 : Int32) (x4 : Int32) , rc w x3 x4 = some r → V X S w 5 [(0, rf S 0), (1, .int x1), (2, .int x2), (3, .int x3), (4, .int x4)] [])  (hP : K_X10_cheapestTeam_85 F x1 x2 k91 rc w x18 x19 = some r) : V X S w 85 [(0, rf S 0), (1, .int x1), (2, .int x2), (3, .int x18), (4, .int x19)] [] := by
  unfold K_X10_cheapestTeam_85 at hP
  obtain ⟨x20, ex20⟩ : ∃ y : Int32, y = x19 + 1 := ⟨_, rfl⟩
  replace hP := lt_r ex20 hP
  refine V_iinc (v := x20) (lv' := [(4, .int x20), (0, rf S 0), (1, .int x1), (2, .int x2), (3, .int x18)]) hX dX10_cheapestTeam_85 (j := 4) rfl (by decide) (by rw [ex20]; rfl) rfl ?_
  refine V_goto (tgt := 5) hX dX10_cheapestTeam_88 (by decide) ?_
  refine V_sub (lv' := [(0, rf S 0), (1, .int x1), (2, .int x2), (3, .int x18), (4, .int x20)]) [1, 2, 3, 4, 0] rfl ?_
  exact hrc _ _ _  hP
def K_X10_cheapestTeam_55 (F : Nat) (x1 : Int32) (x2 : Int32) (k91 : Wd → Int32 → Option (Int32 × Wd)) (rc : Wd → Int32 → Int32 → Option (Int32 × Wd)) (w : Wd) (x12 : Int32) (x13 : Int32) (x14 : Int32) : Option (Int32 × Wd) := bnd (P_J6_bitCount_0f7a4 F w x13) (fun x16 w15 => (if x16 = x1 then (if x14 = 0 then K_X10_cheapestTeam_85 F x1 x2 k91 rc w15 x12 x13 else bnd (P_X10_ringsAlone F w15 x13 x2) (fun x23 w22 => (if x23 = x2 then K_X10_cheapestTeam_85 F x1 x2 k91 rc w22 x13 x13 else K_X10_cheapestTeam_85 F x1 x2 k91 rc w22 x12 x13))) else K_X10_cheapestTeam_85 F x1 x2 k91 rc w15 x12 x13))
set_option maxRecDepth 100000 in
set_option maxHeartbeats 4000000 in
theorem sK_X10_cheapestTeam_55 {X : Cx} {S : Sx} {r : Int32 × Wd} {F : Nat} {x1 : Int32} {x2 : Int32} {k91 : Wd → Int32 → Option (Int32 × Wd)} {rc : Wd → Int32 → Int32 → Option (Int32 × Wd)} {w : Wd} {x12 : Int32} {x13 : Int32} {x14 : Int32} (hX : Ok X S cX10_cheapestTeam RX10 6 rm_X10_cheapestTeam) (hR : HRt X S cX10_cheapestTeam .int r)  (hk91 : ∀ (w : Wd) (x5 : Int32) , k91 w x5 = some r → V X S w 91 [(3, .int x5)] []) (hrc : ∀ (w : Wd) (x3 : Int32) (x4 : Int32) , rc w x3 x4 = some r → V X S w 5 [(0, rf S 0), (1, .int x1), (2, .int x2), (3, .int x3), (4, .int x4)] [])  (hP : K_X10_cheapestTeam_55 F x1 x2 k91 rc w x12 x13 x14 = some r) : V X S w 55 [(0, rf S 0), (1, .int x1), (2, .int x2), (3, .int x12), (4, .int x13)] [.int x14] := by
  unfold K_X10_cheapestTeam_55 at hP
  refine V_istore (lv' := [(5, .int x14), (0, rf S 0), (1, .int x1), (2, .int x2), (3, .int x12), (4, .int x13)]) hX dX10_cheapestTeam_55 (by decide) rfl ?_
  refine V_iload hX dX10_cheapestTeam_57 5 rfl ?_
  obtain ⟨x16, w15, hcw15, hP⟩ := bnd_e hP
  refine V_callSi (As := [.int x13]) (rest := []) hX mk_X10_228 nk_J6_bitCount_0f7a4 (fun l => c_J6_bitCount_0f7a4 l S  hcw15) ⟨rfl, rfl, Nat.le_of_ble_eq_true rfl, Nat.le_of_ble_eq_true rfl⟩ rfl rfl (Nat.le_of_ble_eq_true rfl) dX10_cheapestTeam_59 ?_
  refine V_iload_n hX dX10_cheapestTeam_62 2 rfl ?_
  refine V_icmp_ne (tgt := 85) hX dX10_cheapestTeam_63 (by decide) (fun hc17 => ?_) (fun hc17 => ?_)
  · replace hP := ite_f hc17 hP
    refine V_sub (lv' := [(0, rf S 0), (1, .int x1), (2, .int x2), (3, .int x12), (4, .int x13)]) [1, 2, 3, 4, 5] rfl ?_
    exact sK_X10_cheapestTeam_85 hX hR  hk91 hrc  hP
  · replace hP := ite_t hc17 hP
    refine V_iload hX dX10_cheapestTeam_66 0 rfl ?_
    refine V_if_eq (tgt := 85) hX dX10_cheapestTeam_68 (by decide) (fun hc21 => ?_) (fun hc21 => ?_)
    · replace hP := ite_t hc21 hP
      refine V_sub (lv' := [(0, rf S 0), (1, .int x1), (2, .int x2), (3, .int x12), (4, .int x13)]) [1, 2, 3, 4, 5] rfl ?_
      exact sK_X10_cheapestTeam_85 hX hR  hk91 hrc  hP
    · replace hP := ite_f hc21 hP
      refine V_aload_n hX dX10_cheapestTeam_71 1 rfl ?_
      refine V_iload hX dX10_cheapestTeam_72 5 rfl ?_
      refine V_iload_n hX dX10_cheapestTeam_74 3 rfl ?_
      obtain ⟨x23, w22, hcw22, hP⟩ := bnd_e hP
      refine V_callVi (As := [.int x13, .int x2]) (rest := []) hX mk_X10_275 nk_X10_ringsAlone (fun l => c_X10_ringsAlone l S  hcw22) tb_0 rfl ⟨rfl, rfl, Nat.le_of_ble_eq_true rfl, Nat.le_of_ble_eq_true rfl⟩ rfl rfl (Nat.le_of_ble_eq_true rfl) dX10_cheapestTeam_75 ?_
      refine V_iload_n hX dX10_cheapestTeam_78 3 rfl ?_
      refine V_icmp_ne (tgt := 85) hX dX10_cheapestTeam_79 (by decide) (fun hc24 => ?_) (fun hc24 => ?_)
      · replace hP := ite_f hc24 hP
        refine V_sub (lv' := [(0, rf S 0), (1, .int x1), (2, .int x2), (3, .int x12), (4, .int x13)]) [1, 2, 3, 4, 5] rfl ?_
        exact sK_X10_cheapestTeam_85 hX hR  hk91 hrc  hP
      · replace hP := ite_t hc24 hP
        refine V_iload hX dX10_cheapestTeam_82 5 rfl ?_
        refine V_istore_n (lv' := [(3, .int x13), (5, .int x14), (0, rf S 0), (1, .int x1), (2, .int x2), (4, .int x13)]) hX dX10_cheapestTeam_84 (by decide) rfl ?_
        refine V_sub (lv' := [(0, rf S 0), (1, .int x1), (2, .int x2), (3, .int x13), (4, .int x13)]) [2, 3, 4, 0, 5] rfl ?_
        exact sK_X10_cheapestTeam_85 hX hR  hk91 hrc  hP
def K_X10_cheapestTeam_50 (F : Nat) (x1 : Int32) (x2 : Int32) (k91 : Wd → Int32 → Option (Int32 × Wd)) (rc : Wd → Int32 → Int32 → Option (Int32 × Wd)) (w : Wd) (x10 : Int32) (x11 : Int32) : Option (Int32 × Wd) := K_X10_cheapestTeam_55 F x1 x2 k91 rc w x10 x11 1
set_option maxRecDepth 100000 in
set_option maxHeartbeats 4000000 in
theorem sK_X10_cheapestTeam_50 {X : Cx} {S : Sx} {r : Int32 × Wd} {F : Nat} {x1 : Int32} {x2 : Int32} {k91 : Wd → Int32 → Option (Int32 × Wd)} {rc : Wd → Int32 → Int32 → Option (Int32 × Wd)} {w : Wd} {x10 : Int32} {x11 : Int32} (hX : Ok X S cX10_cheapestTeam RX10 6 rm_X10_cheapestTeam) (hR : HRt X S cX10_cheapestTeam .int r)  (hk91 : ∀ (w : Wd) (x5 : Int32) , k91 w x5 = some r → V X S w 91 [(3, .int x5)] []) (hrc : ∀ (w : Wd) (x3 : Int32) (x4 : Int32) , rc w x3 x4 = some r → V X S w 5 [(0, rf S 0), (1, .int x1), (2, .int x2), (3, .int x3), (4, .int x4)] [])  (hP : K_X10_cheapestTeam_50 F x1 x2 k91 rc w x10 x11 = some r) : V X S w 50 [(0, rf S 0), (1, .int x1), (2, .int x2), (3, .int x10), (4, .int x11)] [] := by
  unfold K_X10_cheapestTeam_50 at hP
  refine V_iconst (v := 1) hX dX10_cheapestTeam_50 (by decide) ?_
  refine V_goto (tgt := 55) hX dX10_cheapestTeam_51 (by decide) ?_
  exact sK_X10_cheapestTeam_55 hX hR  hk91 hrc  hP
def L_X10_cheapestTeam_5 (F : Nat) (x1 : Int32) (x2 : Int32) (k91 : Wd → Int32 → Option (Int32 × Wd)) : Nat → Wd → Int32 → Int32 → Option (Int32 × Wd)
  | 0, _, _, _ => none
  | n + 1, w, x3, x4 => bnd (P_X5_all F w 6) (fun x7 w6 => (if x7 < x4 then k91 w6 x3 else (if x3 = 0 then K_X10_cheapestTeam_50 F x1 x2 k91 ((L_X10_cheapestTeam_5 F x1 x2 k91 n)) w6 x3 x4 else bnd (P_X5_secondsOf F w6 6 x4) (fun x26 w25 => bnd (P_X5_secondsOf F w25 6 x3) (fun x28 w27 => lt (if x28 ≤ x26 then 0 else 1 : Int32) (fun x30 => bnd (P_J6_bitCount_0f7a4 F w27 x4) (fun x32 w31 => (if x32 = x1 then (if x30 = 0 then K_X10_cheapestTeam_85 F x1 x2 k91 ((L_X10_cheapestTeam_5 F x1 x2 k91 n)) w31 x3 x4 else bnd (P_X10_ringsAlone F w31 x4 x2) (fun x36 w35 => (if x36 = x2 then K_X10_cheapestTeam_85 F x1 x2 k91 ((L_X10_cheapestTeam_5 F x1 x2 k91 n)) w35 x4 x4 else K_X10_cheapestTeam_85 F x1 x2 k91 ((L_X10_cheapestTeam_5 F x1 x2 k91 n)) w35 x3 x4))) else K_X10_cheapestTeam_85 F x1 x2 k91 ((L_X10_cheapestTeam_5 F x1 x2 k91 n)) w31 x3 x4))))))))
set_option maxRecDepth 100000 in
set_option maxHeartbeats 4000000 in
theorem sL_X10_cheapestTeam_5 {X : Cx} {S : Sx} {r : Int32 × Wd} {F : Nat} {x1 : Int32} {x2 : Int32} {k91 : Wd → Int32 → Option (Int32 × Wd)} (hX : Ok X S cX10_cheapestTeam RX10 6 rm_X10_cheapestTeam) (hR : HRt X S cX10_cheapestTeam .int r)  (hk91 : ∀ (w : Wd) (x5 : Int32) , k91 w x5 = some r → V X S w 91 [(3, .int x5)] []) : ∀ (n : Nat) (w : Wd) (x3 : Int32) (x4 : Int32) , L_X10_cheapestTeam_5 F x1 x2 k91 n w x3 x4 = some r → V X S w 5 [(0, rf S 0), (1, .int x1), (2, .int x2), (3, .int x3), (4, .int x4)] [] := by
  intro n
  induction n with
  | zero =>
    intro w x3 x4  hP
    exact nn hP
  | succ n ih =>
    intro w x3 x4  hP
    rw [L_X10_cheapestTeam_5] at hP
    refine V_iload hX dX10_cheapestTeam_5 4 rfl ?_
    refine V_aload_n hX dX10_cheapestTeam_7 0 rfl ?_
    refine V_getF (j := 5) hX fk_X10_34 tb_0 (fun _ _ _ => rfl) dX10_cheapestTeam_8 ?_
    refine V_getF (j := 6) hX fk_X10_38 tb_5 (fun _ _ _ => rfl) dX10_cheapestTeam_11 ?_
    obtain ⟨x7, w6, hcw6, hP⟩ := bnd_e hP
    refine V_callVi (As := []) (rest := [.int x4]) hX mk_X10_272 nk_X5_all (fun l => c_X5_all l S (by decide) hcw6) tb_6 rfl ⟨rfl, rfl, Nat.le_of_ble_eq_true rfl, Nat.le_of_ble_eq_true rfl⟩ rfl rfl (Nat.le_of_ble_eq_true rfl) dX10_cheapestTeam_14 ?_
    refine V_icmp_gt (tgt := 91) hX dX10_cheapestTeam_17 (by decide) (fun hc8 => ?_) (fun hc8 => ?_)
    · replace hP := ite_t hc8 hP
      refine V_sub (lv' := [(3, .int x3)]) [3] rfl ?_
      exact hk91 _ _  hP
    · replace hP := ite_f hc8 hP
      refine V_iload_n hX dX10_cheapestTeam_20 3 rfl ?_
      refine V_if_eq (tgt := 50) hX dX10_cheapestTeam_21 (by decide) (fun hc9 => ?_) (fun hc9 => ?_)
      · replace hP := ite_t hc9 hP
        exact sK_X10_cheapestTeam_50 hX hR  hk91 ih  hP
      · replace hP := ite_f hc9 hP
        refine V_aload_n hX dX10_cheapestTeam_24 0 rfl ?_
        refine V_getF (j := 5) hX fk_X10_34 tb_0 (fun _ _ _ => rfl) dX10_cheapestTeam_25 ?_
        refine V_getF (j := 6) hX fk_X10_38 tb_5 (fun _ _ _ => rfl) dX10_cheapestTeam_28 ?_
        refine V_iload hX dX10_cheapestTeam_31 4 rfl ?_
        obtain ⟨x26, w25, hcw25, hP⟩ := bnd_e hP
        refine V_callVi (As := [.int x4]) (rest := []) hX mk_X10_269 nk_X5_secondsOf (fun l => c_X5_secondsOf l S (by decide) hcw25) tb_6 rfl ⟨rfl, rfl, Nat.le_of_ble_eq_true rfl, Nat.le_of_ble_eq_true rfl⟩ rfl rfl (Nat.le_of_ble_eq_true rfl) dX10_cheapestTeam_33 ?_
        refine V_aload_n hX dX10_cheapestTeam_36 0 rfl ?_
        refine V_getF (j := 5) hX fk_X10_34 tb_0 (fun _ _ _ => rfl) dX10_cheapestTeam_37 ?_
        refine V_getF (j := 6) hX fk_X10_38 tb_5 (fun _ _ _ => rfl) dX10_cheapestTeam_40 ?_
        refine V_iload_n hX dX10_cheapestTeam_43 3 rfl ?_
        obtain ⟨x28, w27, hcw27, hP⟩ := bnd_e hP
        refine V_callVi (As := [.int x3]) (rest := [.int x26]) hX mk_X10_269 nk_X5_secondsOf (fun l => c_X5_secondsOf l S (by decide) hcw27) tb_6 rfl ⟨rfl, rfl, Nat.le_of_ble_eq_true rfl, Nat.le_of_ble_eq_true rfl⟩ rfl rfl (Nat.le_of_ble_eq_true rfl) dX10_cheapestTeam_44 ?_
        have k38 : V X S w27 55 [(0, rf S 0), (1, .int x1), (2, .int x2), (3, .int x3), (4, .int x4)] [.int (if x28 ≤ x26 then 0 else 1)] := by
          refine V_topi (fun x30 ex30 => ?_)
          replace hP := lt_r ex30 hP
          refine V_istore (lv' := [(5, .int x30), (0, rf S 0), (1, .int x1), (2, .int x2), (3, .int x3), (4, .int x4)]) hX dX10_cheapestTeam_55 (by decide) rfl ?_
          refine V_iload hX dX10_cheapestTeam_57 5 rfl ?_
          obtain ⟨x32, w31, hcw31, hP⟩ := bnd_e hP
          refine V_callSi (As := [.int x4]) (rest := []) hX mk_X10_228 nk_J6_bitCount_0f7a4 (fun l => c_J6_bitCount_0f7a4 l S  hcw31) ⟨rfl, rfl, Nat.le_of_ble_eq_true rfl, Nat.le_of_ble_eq_true rfl⟩ rfl rfl (Nat.le_of_ble_eq_true rfl) dX10_cheapestTeam_59 ?_
          refine V_iload_n hX dX10_cheapestTeam_62 2 rfl ?_
          refine V_icmp_ne (tgt := 85) hX dX10_cheapestTeam_63 (by decide) (fun hc33 => ?_) (fun hc33 => ?_)
          · replace hP := ite_f hc33 hP
            refine V_sub (lv' := [(0, rf S 0), (1, .int x1), (2, .int x2), (3, .int x3), (4, .int x4)]) [1, 2, 3, 4, 5] rfl ?_
            exact sK_X10_cheapestTeam_85 hX hR  hk91 ih  hP
          · replace hP := ite_t hc33 hP
            refine V_iload hX dX10_cheapestTeam_66 0 rfl ?_
            refine V_if_eq (tgt := 85) hX dX10_cheapestTeam_68 (by decide) (fun hc34 => ?_) (fun hc34 => ?_)
            · replace hP := ite_t hc34 hP
              refine V_sub (lv' := [(0, rf S 0), (1, .int x1), (2, .int x2), (3, .int x3), (4, .int x4)]) [1, 2, 3, 4, 5] rfl ?_
              exact sK_X10_cheapestTeam_85 hX hR  hk91 ih  hP
            · replace hP := ite_f hc34 hP
              refine V_aload_n hX dX10_cheapestTeam_71 1 rfl ?_
              refine V_iload hX dX10_cheapestTeam_72 5 rfl ?_
              refine V_iload_n hX dX10_cheapestTeam_74 3 rfl ?_
              obtain ⟨x36, w35, hcw35, hP⟩ := bnd_e hP
              refine V_callVi (As := [.int x4, .int x2]) (rest := []) hX mk_X10_275 nk_X10_ringsAlone (fun l => c_X10_ringsAlone l S  hcw35) tb_0 rfl ⟨rfl, rfl, Nat.le_of_ble_eq_true rfl, Nat.le_of_ble_eq_true rfl⟩ rfl rfl (Nat.le_of_ble_eq_true rfl) dX10_cheapestTeam_75 ?_
              refine V_iload_n hX dX10_cheapestTeam_78 3 rfl ?_
              refine V_icmp_ne (tgt := 85) hX dX10_cheapestTeam_79 (by decide) (fun hc37 => ?_) (fun hc37 => ?_)
              · replace hP := ite_f hc37 hP
                refine V_sub (lv' := [(0, rf S 0), (1, .int x1), (2, .int x2), (3, .int x3), (4, .int x4)]) [1, 2, 3, 4, 5] rfl ?_
                exact sK_X10_cheapestTeam_85 hX hR  hk91 ih  hP
              · replace hP := ite_t hc37 hP
                refine V_iload hX dX10_cheapestTeam_82 5 rfl ?_
                refine V_istore_n (lv' := [(3, .int x4), (5, .int x30), (0, rf S 0), (1, .int x1), (2, .int x2), (4, .int x4)]) hX dX10_cheapestTeam_84 (by decide) rfl ?_
                refine V_sub (lv' := [(0, rf S 0), (1, .int x1), (2, .int x2), (3, .int x4), (4, .int x4)]) [2, 3, 4, 0, 5] rfl ?_
                exact sK_X10_cheapestTeam_85 hX hR  hk91 ih  hP
        refine V_icmp_ge (tgt := 54) hX dX10_cheapestTeam_47 (by decide) (fun hc29 => ?_) (fun hc29 => ?_)
        · refine V_iconst (v := 0) hX dX10_cheapestTeam_54 (by decide) ?_
          refine V_selT (c := x28 ≤ x26) (b := 1) hc29 ?_
          exact k38
        · refine V_iconst (v := 1) hX dX10_cheapestTeam_50 (by decide) ?_
          refine V_goto (tgt := 55) hX dX10_cheapestTeam_51 (by decide) ?_
          refine V_selF (c := x28 ≤ x26) (a := 0) hc29 ?_
          exact k38
def P_X10_cheapestTeam (F : Nat) (w : Wd) (x1 : Int32) (x2 : Int32) : Option (Int32 × Wd) := L_X10_cheapestTeam_5 F x1 x2 (fun w x5 => some (x5, w)) F w 0 1
set_option maxRecDepth 100000 in
set_option maxHeartbeats 4000000 in
theorem s_X10_cheapestTeam {X : Cx} {S : Sx} {r : Int32 × Wd} {F : Nat} {w : Wd} {x1 : Int32} {x2 : Int32}  (hX : Ok X S cX10_cheapestTeam RX10 6 rm_X10_cheapestTeam) (hR : HRt X S cX10_cheapestTeam .int r) (hP : P_X10_cheapestTeam F w x1 x2 = some r) : V X S w 0 [(0, rf S 0), (1, .int x1), (2, .int x2)] [] := by
  unfold P_X10_cheapestTeam at hP
  refine V_iconst (v := 0) hX dX10_cheapestTeam_0 (by decide) ?_
  refine V_istore_n (lv' := [(3, .int 0), (0, rf S 0), (1, .int x1), (2, .int x2)]) hX dX10_cheapestTeam_1 (by decide) rfl ?_
  refine V_iconst (v := 1) hX dX10_cheapestTeam_2 (by decide) ?_
  refine V_istore (lv' := [(4, .int 1), (3, .int 0), (0, rf S 0), (1, .int x1), (2, .int x2)]) hX dX10_cheapestTeam_3 (by decide) rfl ?_
  refine V_sub (lv' := [(0, rf S 0), (1, .int x1), (2, .int x2), (3, .int 0), (4, .int 1)]) [2, 3, 4, 1, 0] rfl ?_
  have k39 : ∀ (w : Wd) (x5 : Int32) , (some (x5, w)) = some r → V X S w 91 [(3, .int x5)] [] := by
    intro w x5  hP
    refine V_iload_n hX dX10_cheapestTeam_91 0 rfl ?_
    exact hR _ _ _ _ (Option.some.inj hP) rfl dX10_cheapestTeam_92
  exact sL_X10_cheapestTeam_5 hX hR  k39 F _ _ _  hP
theorem c_X10_cheapestTeam (l : Launch) (S : Sx) {r : Int32 × Wd} {F : Nat} {w : Wd} {x1 : Int32} {x2 : Int32}  (h : P_X10_cheapestTeam F w x1 x2 = some r) : Met l yX10_cheapestTeam (wsg yX10_cheapestTeam cX10_cheapestTeam 6 (some .int)) rm_X10_cheapestTeam (PC S w [rf S 0, .int x1, .int x2]) (QCi S r) 0 0 (Aw S) :=
  met_i (by decide) rfl (Nat.le_of_ble_eq_true rfl) ⟨rfl, rfl⟩ (fun X hX hR => s_X10_cheapestTeam  hX hR h)

-- MustNotStop.team(I)I
abbrev rm_X10_team : Room := { frames := 8, cells := 0, slots := 0, locals := 235 }
theorem nk_X10_team : MNk yX10_team RX10 1 := ⟨rfl, by decide, by decide, by decide +kernel⟩
def L_X10_team_15 (F : Nat) (x1 : Int32) (k57 : Wd → Option (Int32 × Wd)) : Nat → Wd → Int32 → Option (Int32 × Wd)
  | 0, _, _ => none
  | n + 1, w, x4 => (if (3 : Int32) < x4 then k57 w  else bnd (P_X10_cheapestTeam F w x4 x1) (fun x7 w6 => (if x7 = 0 then lt (x4 + 1 : Int32) (fun x9 => L_X10_team_15 F x1 k57 n w6 x9) else bnd (P_X5_secondsOf F w6 6 x7) (fun x11 w10 => bnv (P_X10_tell_ F w10 (Int32.toInt64 x7) (Int32.toInt64 x11)) (fun w12 => some (x4, w12))))))
set_option maxRecDepth 100000 in
set_option maxHeartbeats 4000000 in
theorem sL_X10_team_15 {X : Cx} {S : Sx} {r : Int32 × Wd} {F : Nat} {x1 : Int32} {k57 : Wd → Option (Int32 × Wd)} (hX : Ok X S cX10_team RX10 4 rm_X10_team) (hR : HRt X S cX10_team .int r)  (hk57 : ∀ (w : Wd), k57 w = some r → V X S w 57 [] []) : ∀ (n : Nat) (w : Wd) (x4 : Int32) , L_X10_team_15 F x1 k57 n w x4 = some r → V X S w 15 [(0, rf S 0), (1, .int x1), (2, .int x4)] [] := by
  intro n
  induction n with
  | zero =>
    intro w x4  hP
    exact nn hP
  | succ n ih =>
    intro w x4  hP
    rw [L_X10_team_15] at hP
    refine V_iload_n hX dX10_team_15 2 rfl ?_
    refine V_iconst (v := 3) hX dX10_team_16 (by decide) ?_
    refine V_icmp_gt (tgt := 57) hX dX10_team_17 (by decide) (fun hc5 => ?_) (fun hc5 => ?_)
    · replace hP := ite_t hc5 hP
      refine V_sub (lv' := []) [] rfl ?_
      exact hk57 _   hP
    · replace hP := ite_f hc5 hP
      refine V_aload_n hX dX10_team_20 0 rfl ?_
      refine V_iload_n hX dX10_team_21 2 rfl ?_
      refine V_iload_n hX dX10_team_22 1 rfl ?_
      obtain ⟨x7, w6, hcw6, hP⟩ := bnd_e hP
      refine V_callVi (As := [.int x4, .int x1]) (rest := []) hX mk_X10_266 nk_X10_cheapestTeam (fun l => c_X10_cheapestTeam l S  hcw6) tb_0 rfl ⟨rfl, rfl, Nat.le_of_ble_eq_true rfl, Nat.le_of_ble_eq_true rfl⟩ rfl rfl (Nat.le_of_ble_eq_true rfl) dX10_team_23 ?_
      refine V_istore_n (lv' := [(3, .int x7), (0, rf S 0), (1, .int x1), (2, .int x4)]) hX dX10_team_26 (by decide) rfl ?_
      refine V_iload_n hX dX10_team_27 0 rfl ?_
      refine V_if_eq (tgt := 51) hX dX10_team_28 (by decide) (fun hc8 => ?_) (fun hc8 => ?_)
      · replace hP := ite_t hc8 hP
        obtain ⟨x9, ex9⟩ : ∃ y : Int32, y = x4 + 1 := ⟨_, rfl⟩
        replace hP := lt_r ex9 hP
        refine V_iinc (v := x9) (lv' := [(2, .int x9), (3, .int x7), (0, rf S 0), (1, .int x1)]) hX dX10_team_51 (j := 3) rfl (by decide) (by rw [ex9]; rfl) rfl ?_
        refine V_goto (tgt := 15) hX dX10_team_54 (by decide) ?_
        refine V_sub (lv' := [(0, rf S 0), (1, .int x1), (2, .int x9)]) [2, 3, 0] rfl ?_
        exact ih _ _  hP
      · replace hP := ite_f hc8 hP
        refine V_aload_n hX dX10_team_31 1 rfl ?_
        refine V_iload_n hX dX10_team_32 0 rfl ?_
        refine V_i2l hX dX10_team_33 ?_
        refine V_aload_n hX dX10_team_34 1 rfl ?_
        refine V_getF (j := 5) hX fk_X10_34 tb_0 (fun _ _ _ => rfl) dX10_team_35 ?_
        refine V_getF (j := 6) hX fk_X10_38 tb_5 (fun _ _ _ => rfl) dX10_team_38 ?_
        refine V_iload_n hX dX10_team_41 0 rfl ?_
        obtain ⟨x11, w10, hcw10, hP⟩ := bnd_e hP
        refine V_callVi (As := [.int x7]) (rest := [.long (Int32.toInt64 x7), rf S 0]) hX mk_X10_269 nk_X5_secondsOf (fun l => c_X5_secondsOf l S (by decide) hcw10) tb_6 rfl ⟨rfl, rfl, Nat.le_of_ble_eq_true rfl, Nat.le_of_ble_eq_true rfl⟩ rfl rfl (Nat.le_of_ble_eq_true rfl) dX10_team_42 ?_
        refine V_i2l hX dX10_team_45 ?_
        obtain ⟨w12, hcw12, hP⟩ := bnv_e hP
        refine V_callVv (As := [.long (Int32.toInt64 x7), .long (Int32.toInt64 x11)]) (rest := []) hX mk_X10_202 nk_X10_tell_ (fun l => c_X10_tell_ l S  hcw12) tb_0 rfl ⟨rfl, rfl, Nat.le_of_ble_eq_true rfl, Nat.le_of_ble_eq_true rfl⟩ rfl rfl (Nat.le_of_ble_eq_true rfl) dX10_team_46 ?_
        refine V_iload_n hX dX10_team_49 3 rfl ?_
        exact hR _ _ _ _ (Option.some.inj hP) rfl dX10_team_50
def P_X10_team (F : Nat) (w : Wd) (x1 : Int32) : Option (Int32 × Wd) := (if x1 < 1 then some ((-1), w) else (if x1 ≤ 120 then L_X10_team_15 F x1 (fun w  => some ((-2), w)) F w 1 else some ((-1), w)))
set_option maxRecDepth 100000 in
set_option maxHeartbeats 4000000 in
theorem s_X10_team {X : Cx} {S : Sx} {r : Int32 × Wd} {F : Nat} {w : Wd} {x1 : Int32}  (hX : Ok X S cX10_team RX10 4 rm_X10_team) (hR : HRt X S cX10_team .int r) (hP : P_X10_team F w x1 = some r) : V X S w 0 [(0, rf S 0), (1, .int x1)] [] := by
  unfold P_X10_team at hP
  refine V_iload_n hX dX10_team_0 1 rfl ?_
  refine V_iconst (v := 1) hX dX10_team_1 (by decide) ?_
  refine V_icmp_lt (tgt := 11) hX dX10_team_2 (by decide) (fun hc2 => ?_) (fun hc2 => ?_)
  · replace hP := ite_t hc2 hP
    refine V_iconst (v := (-1)) hX dX10_team_11 (by decide) ?_
    exact hR _ _ _ _ (Option.some.inj hP) rfl dX10_team_12
  · replace hP := ite_f hc2 hP
    refine V_iload_n hX dX10_team_5 1 rfl ?_
    refine V_bipush (v := 120) hX dX10_team_6 (by decide) ?_
    refine V_icmp_le (tgt := 13) hX dX10_team_8 (by decide) (fun hc3 => ?_) (fun hc3 => ?_)
    · replace hP := ite_t hc3 hP
      refine V_iconst (v := 1) hX dX10_team_13 (by decide) ?_
      refine V_istore_n (lv' := [(2, .int 1), (0, rf S 0), (1, .int x1)]) hX dX10_team_14 (by decide) rfl ?_
      refine V_sub (lv' := [(0, rf S 0), (1, .int x1), (2, .int 1)]) [1, 2, 0] rfl ?_
      have k13 : ∀ (w : Wd)  , (some ((-2), w)) = some r → V X S w 57 [] [] := by
        intro w   hP
        refine V_bipush (v := (-2)) hX dX10_team_57 (by decide) ?_
        exact hR _ _ _ _ (Option.some.inj hP) rfl dX10_team_59
      exact sL_X10_team_15 hX hR  k13 F _ _  hP
    · replace hP := ite_f hc3 hP
      refine V_iconst (v := (-1)) hX dX10_team_11 (by decide) ?_
      exact hR _ _ _ _ (Option.some.inj hP) rfl dX10_team_12
theorem c_X10_team (l : Launch) (S : Sx) {r : Int32 × Wd} {F : Nat} {w : Wd} {x1 : Int32}  (h : P_X10_team F w x1 = some r) : Met l yX10_team (wsg yX10_team cX10_team 4 (some .int)) rm_X10_team (PC S w [rf S 0, .int x1]) (QCi S r) 0 0 (Aw S) :=
  met_i (by decide) rfl (Nat.le_of_ble_eq_true rfl) ⟨rfl, rfl⟩ (fun X hX hR => s_X10_team  hX hR h)

-- MustNotStop.strongest(I)I
abbrev rm_X10_strongest : Room := { frames := 7, cells := 0, slots := 0, locals := 210 }
theorem nk_X10_strongest : MNk yX10_strongest RX10 1 := ⟨rfl, by decide, by decide, by decide +kernel⟩
def K_X10_strongest_70 (F : Nat) (x1 : Int32) (k76 : Wd → Int32 → Int32 → Option (Int32 × Wd)) (rc : Wd → Int32 → Int32 → Int32 → Option (Int32 × Wd)) (w : Wd) (x20 : Int32) (x21 : Int32) (x22 : Int32) : Option (Int32 × Wd) := lt (x22 + 1 : Int32) (fun x23 => rc w x20 x21 x23)
set_option maxRecDepth 100000 in
set_option maxHeartbeats 4000000 in
theorem sK_X10_strongest_70 {X : Cx} {S : Sx} {r : Int32 × Wd} {F : Nat} {x1 : Int32} {k76 : Wd → Int32 → Int32 → Option (Int32 × Wd)} {rc : Wd → Int32 → Int32 → Int32 → Option (Int32 × Wd)} {w : Wd} {x20 : Int32} {x21 : Int32} {x22 : Int32} (hX : Ok X S cX10_strongest RX10 6 rm_X10_strongest) (hR : HRt X S cX10_strongest .int r)  (hk76 : ∀ (w : Wd) (x7 : Int32) (x8 : Int32) , k76 w x7 x8 = some r → V X S w 76 [(0, rf S 0), (2, .int x7), (3, .int x8)] []) (hrc : ∀ (w : Wd) (x4 : Int32) (x5 : Int32) (x6 : Int32) , rc w x4 x5 x6 = some r → V X S w 19 [(0, rf S 0), (1, .int x1), (2, .int x4), (3, .int x5), (4, .int x6)] [])  (hP : K_X10_strongest_70 F x1 k76 rc w x20 x21 x22 = some r) : V X S w 70 [(0, rf S 0), (1, .int x1), (2, .int x20), (3, .int x21), (4, .int x22)] [] := by
  unfold K_X10_strongest_70 at hP
  obtain ⟨x23, ex23⟩ : ∃ y : Int32, y = x22 + 1 := ⟨_, rfl⟩
  replace hP := lt_r ex23 hP
  refine V_iinc (v := x23) (lv' := [(4, .int x23), (0, rf S 0), (1, .int x1), (2, .int x20), (3, .int x21)]) hX dX10_strongest_70 (j := 4) rfl (by decide) (by rw [ex23]; rfl) rfl ?_
  refine V_goto (tgt := 19) hX dX10_strongest_73 (by decide) ?_
  refine V_sub (lv' := [(0, rf S 0), (1, .int x1), (2, .int x20), (3, .int x21), (4, .int x23)]) [1, 2, 3, 4, 0] rfl ?_
  exact hrc _ _ _ _  hP
def K_X10_strongest_56 (F : Nat) (x1 : Int32) (k76 : Wd → Int32 → Int32 → Option (Int32 × Wd)) (rc : Wd → Int32 → Int32 → Int32 → Option (Int32 × Wd)) (w : Wd) (x15 : Int32) (x16 : Int32) (x17 : Int32) (x18 : Int32) : Option (Int32 × Wd) := (if x18 ≤ x15 then K_X10_strongest_70 F x1 k76 rc w x15 x16 x17 else K_X10_strongest_70 F x1 k76 rc w x18 x17 x17)
set_option maxRecDepth 100000 in
set_option maxHeartbeats 4000000 in
theorem sK_X10_strongest_56 {X : Cx} {S : Sx} {r : Int32 × Wd} {F : Nat} {x1 : Int32} {k76 : Wd → Int32 → Int32 → Option (Int32 × Wd)} {rc : Wd → Int32 → Int32 → Int32 → Option (Int32 × Wd)} {w : Wd} {x15 : Int32} {x16 : Int32} {x17 : Int32} {x18 : Int32} (hX : Ok X S cX10_strongest RX10 6 rm_X10_strongest) (hR : HRt X S cX10_strongest .int r)  (hk76 : ∀ (w : Wd) (x7 : Int32) (x8 : Int32) , k76 w x7 x8 = some r → V X S w 76 [(0, rf S 0), (2, .int x7), (3, .int x8)] []) (hrc : ∀ (w : Wd) (x4 : Int32) (x5 : Int32) (x6 : Int32) , rc w x4 x5 x6 = some r → V X S w 19 [(0, rf S 0), (1, .int x1), (2, .int x4), (3, .int x5), (4, .int x6)] [])  (hP : K_X10_strongest_56 F x1 k76 rc w x15 x16 x17 x18 = some r) : V X S w 56 [(0, rf S 0), (1, .int x1), (2, .int x15), (3, .int x16), (4, .int x17)] [.int x18] := by
  unfold K_X10_strongest_56 at hP
  refine V_istore (lv' := [(5, .int x18), (0, rf S 0), (1, .int x1), (2, .int x15), (3, .int x16), (4, .int x17)]) hX dX10_strongest_56 (by decide) rfl ?_
  refine V_iload hX dX10_strongest_58 0 rfl ?_
  refine V_iload_n hX dX10_strongest_60 3 rfl ?_
  refine V_icmp_le (tgt := 70) hX dX10_strongest_61 (by decide) (fun hc19 => ?_) (fun hc19 => ?_)
  · replace hP := ite_t hc19 hP
    refine V_sub (lv' := [(0, rf S 0), (1, .int x1), (2, .int x15), (3, .int x16), (4, .int x17)]) [1, 2, 3, 4, 5] rfl ?_
    exact sK_X10_strongest_70 hX hR  hk76 hrc  hP
  · replace hP := ite_f hc19 hP
    refine V_iload hX dX10_strongest_64 0 rfl ?_
    refine V_istore_n (lv' := [(2, .int x18), (5, .int x18), (0, rf S 0), (1, .int x1), (3, .int x16), (4, .int x17)]) hX dX10_strongest_66 (by decide) rfl ?_
    refine V_iload hX dX10_strongest_67 5 rfl ?_
    refine V_istore_n (lv' := [(3, .int x17), (2, .int x18), (5, .int x18), (0, rf S 0), (1, .int x1), (4, .int x17)]) hX dX10_strongest_69 (by decide) rfl ?_
    refine V_sub (lv' := [(0, rf S 0), (1, .int x1), (2, .int x18), (3, .int x17), (4, .int x17)]) [3, 4, 1, 0, 5] rfl ?_
    exact sK_X10_strongest_70 hX hR  hk76 hrc  hP
def L_X10_strongest_19 (F : Nat) (x1 : Int32) (k76 : Wd → Int32 → Int32 → Option (Int32 × Wd)) : Nat → Wd → Int32 → Int32 → Int32 → Option (Int32 × Wd)
  | 0, _, _, _, _ => none
  | n + 1, w, x4, x5, x6 => bnd (P_X5_all F w 6) (fun x10 w9 => (if x10 < x6 then k76 w9 x4 x5 else bnd (P_J6_bitCount_0f7a4 F w9 x6) (fun x13 w12 => (if x13 = x1 then bnd (P_X10_ringsAlone F w12 x6 999) (fun x25 w24 => K_X10_strongest_56 F x1 k76 ((L_X10_strongest_19 F x1 k76 n)) w24 x4 x5 x6 x25) else K_X10_strongest_56 F x1 k76 ((L_X10_strongest_19 F x1 k76 n)) w12 x4 x5 x6 ((-1))))))
set_option maxRecDepth 100000 in
set_option maxHeartbeats 4000000 in
theorem sL_X10_strongest_19 {X : Cx} {S : Sx} {r : Int32 × Wd} {F : Nat} {x1 : Int32} {k76 : Wd → Int32 → Int32 → Option (Int32 × Wd)} (hX : Ok X S cX10_strongest RX10 6 rm_X10_strongest) (hR : HRt X S cX10_strongest .int r)  (hk76 : ∀ (w : Wd) (x7 : Int32) (x8 : Int32) , k76 w x7 x8 = some r → V X S w 76 [(0, rf S 0), (2, .int x7), (3, .int x8)] []) : ∀ (n : Nat) (w : Wd) (x4 : Int32) (x5 : Int32) (x6 : Int32) , L_X10_strongest_19 F x1 k76 n w x4 x5 x6 = some r → V X S w 19 [(0, rf S 0), (1, .int x1), (2, .int x4), (3, .int x5), (4, .int x6)] [] := by
  intro n
  induction n with
  | zero =>
    intro w x4 x5 x6  hP
    exact nn hP
  | succ n ih =>
    intro w x4 x5 x6  hP
    rw [L_X10_strongest_19] at hP
    refine V_iload hX dX10_strongest_19 4 rfl ?_
    refine V_aload_n hX dX10_strongest_21 0 rfl ?_
    refine V_getF (j := 5) hX fk_X10_34 tb_0 (fun _ _ _ => rfl) dX10_strongest_22 ?_
    refine V_getF (j := 6) hX fk_X10_38 tb_5 (fun _ _ _ => rfl) dX10_strongest_25 ?_
    obtain ⟨x10, w9, hcw9, hP⟩ := bnd_e hP
    refine V_callVi (As := []) (rest := [.int x6]) hX mk_X10_272 nk_X5_all (fun l => c_X5_all l S (by decide) hcw9) tb_6 rfl ⟨rfl, rfl, Nat.le_of_ble_eq_true rfl, Nat.le_of_ble_eq_true rfl⟩ rfl rfl (Nat.le_of_ble_eq_true rfl) dX10_strongest_28 ?_
    refine V_icmp_gt (tgt := 76) hX dX10_strongest_31 (by decide) (fun hc11 => ?_) (fun hc11 => ?_)
    · replace hP := ite_t hc11 hP
      refine V_sub (lv' := [(0, rf S 0), (2, .int x4), (3, .int x5)]) [0, 2, 3] rfl ?_
      exact hk76 _ _ _  hP
    · replace hP := ite_f hc11 hP
      refine V_iload hX dX10_strongest_34 4 rfl ?_
      obtain ⟨x13, w12, hcw12, hP⟩ := bnd_e hP
      refine V_callSi (As := [.int x6]) (rest := []) hX mk_X10_228 nk_J6_bitCount_0f7a4 (fun l => c_J6_bitCount_0f7a4 l S  hcw12) ⟨rfl, rfl, Nat.le_of_ble_eq_true rfl, Nat.le_of_ble_eq_true rfl⟩ rfl rfl (Nat.le_of_ble_eq_true rfl) dX10_strongest_36 ?_
      refine V_iload_n hX dX10_strongest_39 1 rfl ?_
      refine V_icmp_ne (tgt := 55) hX dX10_strongest_40 (by decide) (fun hc14 => ?_) (fun hc14 => ?_)
      · replace hP := ite_f hc14 hP
        refine V_iconst (v := (-1)) hX dX10_strongest_55 (by decide) ?_
        exact sK_X10_strongest_56 hX hR  hk76 ih  hP
      · replace hP := ite_t hc14 hP
        refine V_aload_n hX dX10_strongest_43 0 rfl ?_
        refine V_iload hX dX10_strongest_44 4 rfl ?_
        refine V_sipush (v := 999) hX dX10_strongest_46 (by decide) ?_
        obtain ⟨x25, w24, hcw24, hP⟩ := bnd_e hP
        refine V_callVi (As := [.int x6, .int 999]) (rest := []) hX mk_X10_275 nk_X10_ringsAlone (fun l => c_X10_ringsAlone l S  hcw24) tb_0 rfl ⟨rfl, rfl, Nat.le_of_ble_eq_true rfl, Nat.le_of_ble_eq_true rfl⟩ rfl rfl (Nat.le_of_ble_eq_true rfl) dX10_strongest_49 ?_
        refine V_goto (tgt := 56) hX dX10_strongest_52 (by decide) ?_
        exact sK_X10_strongest_56 hX hR  hk76 ih  hP
def P_X10_strongest (F : Nat) (w : Wd) (x1 : Int32) : Option (Int32 × Wd) := (if x1 < 1 then some ((-1), w) else (if x1 ≤ 3 then L_X10_strongest_19 F x1 (fun w x7 x8 => (if (0 : Int32) ≤ x7 then bnv (P_X10_tell F w (Int32.toInt64 x8)) (fun w27 => some (x7, w27)) else some ((-2), w))) F w ((-1)) 0 1 else some ((-1), w)))
set_option maxRecDepth 100000 in
set_option maxHeartbeats 4000000 in
theorem s_X10_strongest {X : Cx} {S : Sx} {r : Int32 × Wd} {F : Nat} {w : Wd} {x1 : Int32}  (hX : Ok X S cX10_strongest RX10 6 rm_X10_strongest) (hR : HRt X S cX10_strongest .int r) (hP : P_X10_strongest F w x1 = some r) : V X S w 0 [(0, rf S 0), (1, .int x1)] [] := by
  unfold P_X10_strongest at hP
  refine V_iload_n hX dX10_strongest_0 1 rfl ?_
  refine V_iconst (v := 1) hX dX10_strongest_1 (by decide) ?_
  refine V_icmp_lt (tgt := 10) hX dX10_strongest_2 (by decide) (fun hc2 => ?_) (fun hc2 => ?_)
  · replace hP := ite_t hc2 hP
    refine V_iconst (v := (-1)) hX dX10_strongest_10 (by decide) ?_
    exact hR _ _ _ _ (Option.some.inj hP) rfl dX10_strongest_11
  · replace hP := ite_f hc2 hP
    refine V_iload_n hX dX10_strongest_5 1 rfl ?_
    refine V_iconst (v := 3) hX dX10_strongest_6 (by decide) ?_
    refine V_icmp_le (tgt := 12) hX dX10_strongest_7 (by decide) (fun hc3 => ?_) (fun hc3 => ?_)
    · replace hP := ite_t hc3 hP
      refine V_iconst (v := (-1)) hX dX10_strongest_12 (by decide) ?_
      refine V_istore_n (lv' := [(2, .int ((-1))), (0, rf S 0), (1, .int x1)]) hX dX10_strongest_13 (by decide) rfl ?_
      refine V_iconst (v := 0) hX dX10_strongest_14 (by decide) ?_
      refine V_istore_n (lv' := [(3, .int 0), (2, .int ((-1))), (0, rf S 0), (1, .int x1)]) hX dX10_strongest_15 (by decide) rfl ?_
      refine V_iconst (v := 1) hX dX10_strongest_16 (by decide) ?_
      refine V_istore (lv' := [(4, .int 1), (3, .int 0), (2, .int ((-1))), (0, rf S 0), (1, .int x1)]) hX dX10_strongest_17 (by decide) rfl ?_
      refine V_sub (lv' := [(0, rf S 0), (1, .int x1), (2, .int ((-1))), (3, .int 0), (4, .int 1)]) [3, 4, 2, 1, 0] rfl ?_
      have k28 : ∀ (w : Wd) (x7 : Int32) (x8 : Int32) , ((if (0 : Int32) ≤ x7 then bnv (P_X10_tell F w (Int32.toInt64 x8)) (fun w27 => some (x7, w27)) else some ((-2), w))) = some r → V X S w 76 [(0, rf S 0), (2, .int x7), (3, .int x8)] [] := by
        intro w x7 x8  hP
        refine V_iload_n hX dX10_strongest_76 1 rfl ?_
        refine V_if_ge (tgt := 83) hX dX10_strongest_77 (by decide) (fun hc26 => ?_) (fun hc26 => ?_)
        · replace hP := ite_t hc26 hP
          refine V_aload_n hX dX10_strongest_83 0 rfl ?_
          refine V_iload_n hX dX10_strongest_84 2 rfl ?_
          refine V_i2l hX dX10_strongest_85 ?_
          obtain ⟨w27, hcw27, hP⟩ := bnv_e hP
          refine V_callVv (As := [.long (Int32.toInt64 x8)]) (rest := []) hX mk_X10_263 nk_X10_tell (fun l => c_X10_tell l S  hcw27) tb_0 rfl ⟨rfl, rfl, Nat.le_of_ble_eq_true rfl, Nat.le_of_ble_eq_true rfl⟩ rfl rfl (Nat.le_of_ble_eq_true rfl) dX10_strongest_86 ?_
          refine V_iload_n hX dX10_strongest_89 1 rfl ?_
          exact hR _ _ _ _ (Option.some.inj hP) rfl dX10_strongest_90
        · replace hP := ite_f hc26 hP
          refine V_bipush (v := (-2)) hX dX10_strongest_80 (by decide) ?_
          exact hR _ _ _ _ (Option.some.inj hP) rfl dX10_strongest_82
      exact sL_X10_strongest_19 hX hR  k28 F _ _ _ _  hP
    · replace hP := ite_f hc3 hP
      refine V_iconst (v := (-1)) hX dX10_strongest_10 (by decide) ?_
      exact hR _ _ _ _ (Option.some.inj hP) rfl dX10_strongest_11
theorem c_X10_strongest (l : Launch) (S : Sx) {r : Int32 × Wd} {F : Nat} {w : Wd} {x1 : Int32}  (h : P_X10_strongest F w x1 = some r) : Met l yX10_strongest (wsg yX10_strongest cX10_strongest 6 (some .int)) rm_X10_strongest (PC S w [rf S 0, .int x1]) (QCi S r) 0 0 (Aw S) :=
  met_i (by decide) rfl (Nat.le_of_ble_eq_true rfl) ⟨rfl, rfl⟩ (fun X hX hR => s_X10_strongest  hX hR h)

-- MustNotStop.silence(I)I
abbrev rm_X10_silence : Room := { frames := 5, cells := 0, slots := 0, locals := 165 }
theorem nk_X10_silence : MNk yX10_silence RX10 1 := ⟨rfl, by decide, by decide, by decide +kernel⟩
def K_X10_silence_78 (F : Nat) (x1 : Int32) (k84 : Wd → Int32 → Int32 → Option (Int32 × Wd)) (rc : Wd → Int32 → Int32 → Int32 → Option (Int32 × Wd)) (w : Wd) (x15 : Int32) (x16 : Int32) (x17 : Int32) : Option (Int32 × Wd) := lt (x17 + 1 : Int32) (fun x18 => rc w x15 x16 x18)
set_option maxRecDepth 100000 in
set_option maxHeartbeats 4000000 in
theorem sK_X10_silence_78 {X : Cx} {S : Sx} {r : Int32 × Wd} {F : Nat} {x1 : Int32} {k84 : Wd → Int32 → Int32 → Option (Int32 × Wd)} {rc : Wd → Int32 → Int32 → Int32 → Option (Int32 × Wd)} {w : Wd} {x15 : Int32} {x16 : Int32} {x17 : Int32} (hX : Ok X S cX10_silence RX10 5 rm_X10_silence) (hR : HRt X S cX10_silence .int r)  (hk84 : ∀ (w : Wd) (x9 : Int32) (x10 : Int32) , k84 w x9 x10 = some r → V X S w 84 [(0, rf S 0), (2, .int x9), (3, .int x10)] []) (hrc : ∀ (w : Wd) (x6 : Int32) (x7 : Int32) (x8 : Int32) , rc w x6 x7 x8 = some r → V X S w 38 [(0, rf S 0), (1, .int x1), (2, .int x6), (3, .int x7), (4, .int x8)] [])  (hP : K_X10_silence_78 F x1 k84 rc w x15 x16 x17 = some r) : V X S w 78 [(0, rf S 0), (1, .int x1), (2, .int x15), (3, .int x16), (4, .int x17)] [] := by
  unfold K_X10_silence_78 at hP
  obtain ⟨x18, ex18⟩ : ∃ y : Int32, y = x17 + 1 := ⟨_, rfl⟩
  replace hP := lt_r ex18 hP
  refine V_iinc (v := x18) (lv' := [(4, .int x18), (0, rf S 0), (1, .int x1), (2, .int x15), (3, .int x16)]) hX dX10_silence_78 (j := 4) rfl (by decide) (by rw [ex18]; rfl) rfl ?_
  refine V_goto (tgt := 38) hX dX10_silence_81 (by decide) ?_
  refine V_sub (lv' := [(0, rf S 0), (1, .int x1), (2, .int x15), (3, .int x16), (4, .int x18)]) [1, 2, 3, 4, 0] rfl ?_
  exact hrc _ _ _ _  hP
def L_X10_silence_38 (F : Nat) (x1 : Int32) (k84 : Wd → Int32 → Int32 → Option (Int32 × Wd)) : Nat → Wd → Int32 → Int32 → Int32 → Option (Int32 × Wd)
  | 0, _, _, _, _ => none
  | n + 1, w, x6, x7, x8 => (if x1 < x8 then k84 w x6 x7 else bnd (P_X9_ring F w 5 25) (fun x13 w12 => (if (gI w12 25 5) ≤ x6 then K_X10_silence_78 F x1 k84 ((L_X10_silence_38 F x1 k84 n)) w12 x6 x7 x8 else lt (gI w12 25 5 : Int32) (fun x19 => K_X10_silence_78 F x1 k84 ((L_X10_silence_38 F x1 k84 n)) w12 x19 x8 x8))))
set_option maxRecDepth 100000 in
set_option maxHeartbeats 4000000 in
theorem sL_X10_silence_38 {X : Cx} {S : Sx} {r : Int32 × Wd} {F : Nat} {x1 : Int32} {k84 : Wd → Int32 → Int32 → Option (Int32 × Wd)} (hX : Ok X S cX10_silence RX10 5 rm_X10_silence) (hR : HRt X S cX10_silence .int r)  (hk84 : ∀ (w : Wd) (x9 : Int32) (x10 : Int32) , k84 w x9 x10 = some r → V X S w 84 [(0, rf S 0), (2, .int x9), (3, .int x10)] []) : ∀ (n : Nat) (w : Wd) (x6 : Int32) (x7 : Int32) (x8 : Int32) , L_X10_silence_38 F x1 k84 n w x6 x7 x8 = some r → V X S w 38 [(0, rf S 0), (1, .int x1), (2, .int x6), (3, .int x7), (4, .int x8)] [] := by
  intro n
  induction n with
  | zero =>
    intro w x6 x7 x8  hP
    exact nn hP
  | succ n ih =>
    intro w x6 x7 x8  hP
    rw [L_X10_silence_38] at hP
    refine V_iload hX dX10_silence_38 4 rfl ?_
    refine V_iload_n hX dX10_silence_40 1 rfl ?_
    refine V_icmp_gt (tgt := 84) hX dX10_silence_41 (by decide) (fun hc11 => ?_) (fun hc11 => ?_)
    · replace hP := ite_t hc11 hP
      refine V_sub (lv' := [(0, rf S 0), (2, .int x6), (3, .int x7)]) [0, 2, 3] rfl ?_
      exact hk84 _ _ _  hP
    · replace hP := ite_f hc11 hP
      refine V_aload_n hX dX10_silence_44 0 rfl ?_
      refine V_getF (j := 5) hX fk_X10_34 tb_0 (fun _ _ _ => rfl) dX10_silence_45 ?_
      refine V_aload_n hX dX10_silence_48 0 rfl ?_
      refine V_getF (j := 25) hX fk_X10_62 tb_0 (fun _ _ _ => rfl) dX10_silence_49 ?_
      obtain ⟨x13, w12, hcw12, hP⟩ := bnd_e hP
      refine V_callVi (As := [rf S 25]) (rest := []) hX mk_X10_253 nk_X9_ring (fun l => c_X9_ring l S (by decide) (by decide) hcw12) tb_5 rfl ⟨rfl, rfl, Nat.le_of_ble_eq_true rfl, Nat.le_of_ble_eq_true rfl⟩ rfl rfl (Nat.le_of_ble_eq_true rfl) dX10_silence_52 ?_
      refine V_pop hX dX10_silence_55 rfl ?_
      refine V_aload_n hX dX10_silence_56 0 rfl ?_
      refine V_getF (j := 25) hX fk_X10_62 tb_0 (fun _ _ _ => rfl) dX10_silence_57 ?_
      refine V_getI hX fk_X10_260 tb_25 (fun _ _ _ => rfl) dX10_silence_60 ?_
      refine V_iload_n hX dX10_silence_63 2 rfl ?_
      refine V_icmp_le (tgt := 78) hX dX10_silence_64 (by decide) (fun hc14 => ?_) (fun hc14 => ?_)
      · replace hP := ite_t hc14 hP
        exact sK_X10_silence_78 hX hR  hk84 ih  hP
      · replace hP := ite_f hc14 hP
        refine V_aload_n hX dX10_silence_67 0 rfl ?_
        refine V_getF (j := 25) hX fk_X10_62 tb_0 (fun _ _ _ => rfl) dX10_silence_68 ?_
        refine V_getI hX fk_X10_260 tb_25 (fun _ _ _ => rfl) dX10_silence_71 ?_
        refine V_topi (fun x19 ex19 => ?_)
        replace hP := lt_r ex19 hP
        refine V_istore_n (lv' := [(2, .int x19), (0, rf S 0), (1, .int x1), (3, .int x7), (4, .int x8)]) hX dX10_silence_74 (by decide) rfl ?_
        refine V_iload hX dX10_silence_75 4 rfl ?_
        refine V_istore_n (lv' := [(3, .int x8), (2, .int x19), (0, rf S 0), (1, .int x1), (4, .int x8)]) hX dX10_silence_77 (by decide) rfl ?_
        refine V_sub (lv' := [(0, rf S 0), (1, .int x1), (2, .int x19), (3, .int x8), (4, .int x8)]) [2, 3, 1, 0, 4] rfl ?_
        exact sK_X10_silence_78 hX hR  hk84 ih  hP
def P_X10_silence (F : Nat) (w : Wd) (x1 : Int32) : Option (Int32 × Wd) := (if x1 < 1 then some ((-1), w) else (if x1 ≤ 999 then bnv (P_X1_copy F w 25 23) (fun w4 => lt (gI w4 23 5 : Int32) (fun x5 => L_X10_silence_38 F x1 (fun w x9 x10 => bnv (P_X10_tell_ F w (Int32.toInt64 x10) (Int32.toInt64 (gI w 25 2))) (fun w20 => some (x9, w20))) F w4 x5 0 1)) else some ((-1), w)))
set_option maxRecDepth 100000 in
set_option maxHeartbeats 4000000 in
theorem s_X10_silence {X : Cx} {S : Sx} {r : Int32 × Wd} {F : Nat} {w : Wd} {x1 : Int32}  (hX : Ok X S cX10_silence RX10 5 rm_X10_silence) (hR : HRt X S cX10_silence .int r) (hP : P_X10_silence F w x1 = some r) : V X S w 0 [(0, rf S 0), (1, .int x1)] [] := by
  unfold P_X10_silence at hP
  refine V_iload_n hX dX10_silence_0 1 rfl ?_
  refine V_iconst (v := 1) hX dX10_silence_1 (by decide) ?_
  refine V_icmp_lt (tgt := 12) hX dX10_silence_2 (by decide) (fun hc2 => ?_) (fun hc2 => ?_)
  · replace hP := ite_t hc2 hP
    refine V_iconst (v := (-1)) hX dX10_silence_12 (by decide) ?_
    exact hR _ _ _ _ (Option.some.inj hP) rfl dX10_silence_13
  · replace hP := ite_f hc2 hP
    refine V_iload_n hX dX10_silence_5 1 rfl ?_
    refine V_sipush (v := 999) hX dX10_silence_6 (by decide) ?_
    refine V_icmp_le (tgt := 14) hX dX10_silence_9 (by decide) (fun hc3 => ?_) (fun hc3 => ?_)
    · replace hP := ite_t hc3 hP
      refine V_aload_n hX dX10_silence_14 0 rfl ?_
      refine V_getF (j := 25) hX fk_X10_62 tb_0 (fun _ _ _ => rfl) dX10_silence_15 ?_
      refine V_aload_n hX dX10_silence_18 0 rfl ?_
      refine V_getF (j := 23) hX fk_X10_58 tb_0 (fun _ _ _ => rfl) dX10_silence_19 ?_
      obtain ⟨w4, hcw4, hP⟩ := bnv_e hP
      refine V_callVv (As := [rf S 23]) (rest := []) hX mk_X10_180 nk_X1_copy (fun l => c_X1_copy l S (by decide) (by decide) hcw4) tb_25 rfl ⟨rfl, rfl, Nat.le_of_ble_eq_true rfl, Nat.le_of_ble_eq_true rfl⟩ rfl rfl (Nat.le_of_ble_eq_true rfl) dX10_silence_22 ?_
      refine V_aload_n hX dX10_silence_25 0 rfl ?_
      refine V_getF (j := 23) hX fk_X10_58 tb_0 (fun _ _ _ => rfl) dX10_silence_26 ?_
      refine V_getI hX fk_X10_260 tb_23 (fun _ _ _ => rfl) dX10_silence_29 ?_
      refine V_topi (fun x5 ex5 => ?_)
      replace hP := lt_r ex5 hP
      refine V_istore_n (lv' := [(2, .int x5), (0, rf S 0), (1, .int x1)]) hX dX10_silence_32 (by decide) rfl ?_
      refine V_iconst (v := 0) hX dX10_silence_33 (by decide) ?_
      refine V_istore_n (lv' := [(3, .int 0), (2, .int x5), (0, rf S 0), (1, .int x1)]) hX dX10_silence_34 (by decide) rfl ?_
      refine V_iconst (v := 1) hX dX10_silence_35 (by decide) ?_
      refine V_istore (lv' := [(4, .int 1), (3, .int 0), (2, .int x5), (0, rf S 0), (1, .int x1)]) hX dX10_silence_36 (by decide) rfl ?_
      refine V_sub (lv' := [(0, rf S 0), (1, .int x1), (2, .int x5), (3, .int 0), (4, .int 1)]) [3, 4, 2, 1, 0] rfl ?_
      have k21 : ∀ (w : Wd) (x9 : Int32) (x10 : Int32) , (bnv (P_X10_tell_ F w (Int32.toInt64 x10) (Int32.toInt64 (gI w 25 2))) (fun w20 => some (x9, w20))) = some r → V X S w 84 [(0, rf S 0), (2, .int x9), (3, .int x10)] [] := by
        intro w x9 x10  hP
        refine V_aload_n hX dX10_silence_84 0 rfl ?_
        refine V_iload_n hX dX10_silence_85 2 rfl ?_
        refine V_i2l hX dX10_silence_86 ?_
        refine V_aload_n hX dX10_silence_87 0 rfl ?_
        refine V_getF (j := 25) hX fk_X10_62 tb_0 (fun _ _ _ => rfl) dX10_silence_88 ?_
        refine V_getI hX fk_X10_233 tb_25 (fun _ _ _ => rfl) dX10_silence_91 ?_
        refine V_i2l hX dX10_silence_94 ?_
        obtain ⟨w20, hcw20, hP⟩ := bnv_e hP
        refine V_callVv (As := [.long (Int32.toInt64 x10), .long (Int32.toInt64 (gI w 25 2))]) (rest := []) hX mk_X10_202 nk_X10_tell_ (fun l => c_X10_tell_ l S  hcw20) tb_0 rfl ⟨rfl, rfl, Nat.le_of_ble_eq_true rfl, Nat.le_of_ble_eq_true rfl⟩ rfl rfl (Nat.le_of_ble_eq_true rfl) dX10_silence_95 ?_
        refine V_iload_n hX dX10_silence_98 1 rfl ?_
        exact hR _ _ _ _ (Option.some.inj hP) rfl dX10_silence_99
      exact sL_X10_silence_38 hX hR  k21 F _ _ _ _  hP
    · replace hP := ite_f hc3 hP
      refine V_iconst (v := (-1)) hX dX10_silence_12 (by decide) ?_
      exact hR _ _ _ _ (Option.some.inj hP) rfl dX10_silence_13
theorem c_X10_silence (l : Launch) (S : Sx) {r : Int32 × Wd} {F : Nat} {w : Wd} {x1 : Int32}  (h : P_X10_silence F w x1 = some r) : Met l yX10_silence (wsg yX10_silence cX10_silence 5 (some .int)) rm_X10_silence (PC S w [rf S 0, .int x1]) (QCi S r) 0 0 (Aw S) :=
  met_i (by decide) rfl (Nat.le_of_ble_eq_true rfl) ⟨rfl, rfl⟩ (fun X hX hR => s_X10_silence  hX hR h)
