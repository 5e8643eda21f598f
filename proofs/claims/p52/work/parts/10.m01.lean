-- MustNotStop$Bell.holds(I)Z
abbrev rm_X1_holds : Room := { frames := 1, cells := 0, slots := 0, locals := 64 }
theorem nk_X1_holds : MNk yX1_holds RX1 1 := ⟨rfl, by decide, by decide, by decide +kernel⟩
def P_X1_holds (F : Nat) (w : Wd) (a1 : Nat) (x2 : Int32) : Option (Int32 × Wd) := lt (if x2 < 0 then 0 else if (8 : Int32) ≤ x2 then 0 else if ((ishrI (gI w a1 1) x2) &&& 1) = 0 then 0 else 1 : Int32) (fun x6 => gd (isZO x6) (some (x6, w)))
set_option maxRecDepth 100000 in
set_option maxHeartbeats 4000000 in
theorem s_X1_holds {X : Cx} {S : Sx} {r : Int32 × Wd} {F : Nat} {w : Wd} {a1 : Nat} {x2 : Int32} (ha1 : isX1 a1 = true) (hX : Ok X S cX1_holds RX1 2 rm_X1_holds) (hR : HRt X S cX1_holds .boolean r) (hP : P_X1_holds F w a1 x2 = some r) : V X S w 0 [(0, rf S a1), (1, .int x2)] [] := by
  unfold P_X1_holds at hP
  refine V_iload_n hX dX1_holds_0 1 rfl ?_
  have k8 : V X S w 26 [(0, rf S a1), (1, .int x2)] [.int (if x2 < 0 then 0 else if (8 : Int32) ≤ x2 then 0 else if ((ishrI (gI w a1 1) x2) &&& 1) = 0 then 0 else 1)] := by
    refine V_topi (fun x6 ex6 => ?_)
    replace hP := lt_r ex6 hP
    obtain ⟨hz7, hP⟩ := gd_e hP
    exact hR _ _ _ _ (Option.some.inj hP) (nar_z hz7) dX1_holds_26
  refine V_if_lt (tgt := 25) hX dX1_holds_1 (by decide) (fun hc5 => ?_) (fun hc5 => ?_)
  · refine V_iconst (v := 0) hX dX1_holds_25 (by decide) ?_
    refine V_selT (c := x2 < 0) (b := if (8 : Int32) ≤ x2 then 0 else if ((ishrI (gI w a1 1) x2) &&& 1) = 0 then 0 else 1) hc5 ?_
    exact k8
  · refine V_iload_n hX dX1_holds_4 1 rfl ?_
    refine V_bipush (v := 8) hX dX1_holds_5 (by decide) ?_
    refine V_icmp_ge (tgt := 25) hX dX1_holds_7 (by decide) (fun hc4 => ?_) (fun hc4 => ?_)
    · refine V_iconst (v := 0) hX dX1_holds_25 (by decide) ?_
      refine V_selT (c := (8 : Int32) ≤ x2) (b := if ((ishrI (gI w a1 1) x2) &&& 1) = 0 then 0 else 1) hc4 ?_
      refine V_selF (c := x2 < 0) (a := 0) hc5 ?_
      exact k8
    · refine V_aload_n hX dX1_holds_10 0 rfl ?_
      refine V_getI hX fk_X1_15 (tb_X1 ha1) (fun _ _ _ => rfl) dX1_holds_11 ?_
      refine V_iload_n hX dX1_holds_14 1 rfl ?_
      refine V_ishr hX dX1_holds_15 ?_
      refine V_iconst (v := 1) hX dX1_holds_16 (by decide) ?_
      refine V_iand hX dX1_holds_17 ?_
      refine V_if_eq (tgt := 25) hX dX1_holds_18 (by decide) (fun hc3 => ?_) (fun hc3 => ?_)
      · refine V_iconst (v := 0) hX dX1_holds_25 (by decide) ?_
        refine V_selT (c := ((ishrI (gI w a1 1) x2) &&& 1) = 0) (b := 1) hc3 ?_
        refine V_selF (c := (8 : Int32) ≤ x2) (a := 0) hc4 ?_
        refine V_selF (c := x2 < 0) (a := 0) hc5 ?_
        exact k8
      · refine V_iconst (v := 1) hX dX1_holds_21 (by decide) ?_
        refine V_goto (tgt := 26) hX dX1_holds_22 (by decide) ?_
        refine V_selF (c := ((ishrI (gI w a1 1) x2) &&& 1) = 0) (a := 0) hc3 ?_
        refine V_selF (c := (8 : Int32) ≤ x2) (a := 0) hc4 ?_
        refine V_selF (c := x2 < 0) (a := 0) hc5 ?_
        exact k8
theorem c_X1_holds (l : Launch) (S : Sx) {r : Int32 × Wd} {F : Nat} {w : Wd} {a1 : Nat} {x2 : Int32} (ha1 : isX1 a1 = true) (h : P_X1_holds F w a1 x2 = some r) : Met l yX1_holds (wsg yX1_holds cX1_holds 2 (some .boolean)) rm_X1_holds (PC S w [rf S a1, .int x2]) (QCi S r) 0 0 (Aw S) :=
  met_i (by decide) rfl (Nat.le_of_ble_eq_true rfl) ⟨rfl, rfl⟩ (fun X hX hR => s_X1_holds ha1 hX hR h)

-- MustNotStop$Bell.tiredOf(I)I
abbrev rm_X1_tiredOf : Room := { frames := 1, cells := 0, slots := 0, locals := 64 }
theorem nk_X1_tiredOf : MNk yX1_tiredOf RX1 1 := ⟨rfl, by decide, by decide, by decide +kernel⟩
def P_X1_tiredOf (F : Nat) (w : Wd) (a1 : Nat) (x2 : Int32) : Option (Int32 × Wd) := (if x2 < 0 then some (0, w) else (if (8 : Int32) ≤ x2 then some (0, w) else gd (inB x2 8) (some (gI w (a1 + 1) x2.toNatClampNeg, w))))
set_option maxRecDepth 100000 in
set_option maxHeartbeats 4000000 in
theorem s_X1_tiredOf {X : Cx} {S : Sx} {r : Int32 × Wd} {F : Nat} {w : Wd} {a1 : Nat} {x2 : Int32} (ha1 : isX1 a1 = true) (hX : Ok X S cX1_tiredOf RX1 2 rm_X1_tiredOf) (hR : HRt X S cX1_tiredOf .int r) (hP : P_X1_tiredOf F w a1 x2 = some r) : V X S w 0 [(0, rf S a1), (1, .int x2)] [] := by
  unfold P_X1_tiredOf at hP
  refine V_iload_n hX dX1_tiredOf_0 1 rfl ?_
  refine V_if_lt (tgt := 19) hX dX1_tiredOf_1 (by decide) (fun hc3 => ?_) (fun hc3 => ?_)
  · replace hP := ite_t hc3 hP
    refine V_iconst (v := 0) hX dX1_tiredOf_19 (by decide) ?_
    exact hR _ _ _ _ (Option.some.inj hP) rfl dX1_tiredOf_20
  · replace hP := ite_f hc3 hP
    refine V_iload_n hX dX1_tiredOf_4 1 rfl ?_
    refine V_bipush (v := 8) hX dX1_tiredOf_5 (by decide) ?_
    refine V_icmp_ge (tgt := 19) hX dX1_tiredOf_7 (by decide) (fun hc4 => ?_) (fun hc4 => ?_)
    · replace hP := ite_t hc4 hP
      refine V_iconst (v := 0) hX dX1_tiredOf_19 (by decide) ?_
      exact hR _ _ _ _ (Option.some.inj hP) rfl dX1_tiredOf_20
    · replace hP := ite_f hc4 hP
      refine V_aload_n hX dX1_tiredOf_10 0 rfl ?_
      refine V_getF (j := a1 + 1) hX fk_X1_9 (tb_X1 ha1) (fun _ _ _ => rfl) dX1_tiredOf_11 ?_
      refine V_iload_n hX dX1_tiredOf_14 1 rfl ?_
      obtain ⟨hi5, hP⟩ := gd_e hP
      refine V_iald hX (tb_X1_1 ha1) hi5 dX1_tiredOf_15 ?_
      refine V_goto (tgt := 20) hX dX1_tiredOf_16 (by decide) ?_
      exact hR _ _ _ _ (Option.some.inj hP) rfl dX1_tiredOf_20
theorem c_X1_tiredOf (l : Launch) (S : Sx) {r : Int32 × Wd} {F : Nat} {w : Wd} {a1 : Nat} {x2 : Int32} (ha1 : isX1 a1 = true) (h : P_X1_tiredOf F w a1 x2 = some r) : Met l yX1_tiredOf (wsg yX1_tiredOf cX1_tiredOf 2 (some .int)) rm_X1_tiredOf (PC S w [rf S a1, .int x2]) (QCi S r) 0 0 (Aw S) :=
  met_i (by decide) rfl (Nat.le_of_ble_eq_true rfl) ⟨rfl, rfl⟩ (fun X hX hR => s_X1_tiredOf ha1 hX hR h)

-- MustNotStop$Bell.tire(II)V
abbrev rm_X1_tire : Room := { frames := 1, cells := 0, slots := 0, locals := 64 }
theorem nk_X1_tire : MNk yX1_tire RX1 2 := ⟨rfl, by decide, by decide, by decide +kernel⟩
def P_X1_tire (F : Nat) (w : Wd) (a1 : Nat) (x2 : Int32) (x3 : Int32) : Option (Wd) := (if x2 < 0 then some w else (if (8 : Int32) ≤ x2 then some w else gd (inB x2 8) (lt (sI w (a1 + 1) x2.toNatClampNeg x3) (fun w7 => some w7))))
set_option maxRecDepth 100000 in
set_option maxHeartbeats 4000000 in
theorem s_X1_tire {X : Cx} {S : Sx} {r : Wd} {F : Nat} {w : Wd} {a1 : Nat} {x2 : Int32} {x3 : Int32} (ha1 : isX1 a1 = true) (hX : Ok X S cX1_tire RX1 3 rm_X1_tire) (hR : HRv X S cX1_tire r) (hP : P_X1_tire F w a1 x2 x3 = some r) : V X S w 0 [(0, rf S a1), (1, .int x2), (2, .int x3)] [] := by
  unfold P_X1_tire at hP
  refine V_iload_n hX dX1_tire_0 1 rfl ?_
  refine V_if_lt (tgt := 17) hX dX1_tire_1 (by decide) (fun hc4 => ?_) (fun hc4 => ?_)
  · replace hP := ite_t hc4 hP
    exact hR _ _ _ (Option.some.inj hP) dX1_tire_17
  · replace hP := ite_f hc4 hP
    refine V_iload_n hX dX1_tire_4 1 rfl ?_
    refine V_bipush (v := 8) hX dX1_tire_5 (by decide) ?_
    refine V_icmp_ge (tgt := 17) hX dX1_tire_7 (by decide) (fun hc5 => ?_) (fun hc5 => ?_)
    · replace hP := ite_t hc5 hP
      exact hR _ _ _ (Option.some.inj hP) dX1_tire_17
    · replace hP := ite_f hc5 hP
      refine V_aload_n hX dX1_tire_10 0 rfl ?_
      refine V_getF (j := a1 + 1) hX fk_X1_9 (tb_X1 ha1) (fun _ _ _ => rfl) dX1_tire_11 ?_
      refine V_iload_n hX dX1_tire_14 1 rfl ?_
      refine V_iload_n hX dX1_tire_15 2 rfl ?_
      obtain ⟨hi6, hP⟩ := gd_e hP
      refine V_iast hX (tb_X1_1 ha1) hi6 dX1_tire_16 (fun w7 ew7 => ?_)
      replace hP := lt_r ew7 hP
      exact hR _ _ _ (Option.some.inj hP) dX1_tire_17
theorem c_X1_tire (l : Launch) (S : Sx) {r : Wd} {F : Nat} {w : Wd} {a1 : Nat} {x2 : Int32} {x3 : Int32} (ha1 : isX1 a1 = true) (h : P_X1_tire F w a1 x2 x3 = some r) : Met l yX1_tire (wsg yX1_tire cX1_tire 3 none) rm_X1_tire (PC S w [rf S a1, .int x2, .int x3]) (QCv S r) 0 0 (Aw S) :=
  met_v (by decide) rfl (Nat.le_of_ble_eq_true rfl) ⟨rfl, rfl⟩ (fun X hX hR => s_X1_tire ha1 hX hR h)

-- MustNotStop$Bell.tiredTogether()I
abbrev rm_X1_tiredTogether : Room := { frames := 1, cells := 0, slots := 0, locals := 64 }
theorem nk_X1_tiredTogether : MNk yX1_tiredTogether RX1 0 := ⟨rfl, by decide, by decide, by decide +kernel⟩
def L_X1_tiredTogether_4 (F : Nat) (a1 : Nat) (k25 : Wd → Int32 → Option (Int32 × Wd)) : Nat → Wd → Int32 → Int32 → Option (Int32 × Wd)
  | 0, _, _, _ => none
  | n + 1, w, x2, x3 => (if (8 : Int32) ≤ x3 then k25 w x2 else gd (inB x3 8) (lt (x2 + (gI w (a1 + 1) x3.toNatClampNeg) : Int32) (fun x7 => lt (x3 + 1 : Int32) (fun x8 => L_X1_tiredTogether_4 F a1 k25 n w x7 x8))))
set_option maxRecDepth 100000 in
set_option maxHeartbeats 4000000 in
theorem sL_X1_tiredTogether_4 {X : Cx} {S : Sx} {r : Int32 × Wd} {F : Nat} {a1 : Nat} {k25 : Wd → Int32 → Option (Int32 × Wd)} (hX : Ok X S cX1_tiredTogether RX1 3 rm_X1_tiredTogether) (hR : HRt X S cX1_tiredTogether .int r) (ha1 : isX1 a1 = true) (hk25 : ∀ (w : Wd) (x4 : Int32) , k25 w x4 = some r → V X S w 25 [(1, .int x4)] []) : ∀ (n : Nat) (w : Wd) (x2 : Int32) (x3 : Int32) , L_X1_tiredTogether_4 F a1 k25 n w x2 x3 = some r → V X S w 4 [(0, rf S a1), (1, .int x2), (2, .int x3)] [] := by
  intro n
  induction n with
  | zero =>
    intro w x2 x3  hP
    exact nn hP
  | succ n ih =>
    intro w x2 x3  hP
    rw [L_X1_tiredTogether_4] at hP
    refine V_iload_n hX dX1_tiredTogether_4 2 rfl ?_
    refine V_bipush (v := 8) hX dX1_tiredTogether_5 (by decide) ?_
    refine V_icmp_ge (tgt := 25) hX dX1_tiredTogether_7 (by decide) (fun hc5 => ?_) (fun hc5 => ?_)
    · replace hP := ite_t hc5 hP
      refine V_sub (lv' := [(1, .int x2)]) [1] rfl ?_
      exact hk25 _ _  hP
    · replace hP := ite_f hc5 hP
      refine V_iload_n hX dX1_tiredTogether_10 1 rfl ?_
      refine V_aload_n hX dX1_tiredTogether_11 0 rfl ?_
      refine V_getF (j := a1 + 1) hX fk_X1_9 (tb_X1 ha1) (fun _ _ _ => rfl) dX1_tiredTogether_12 ?_
      refine V_iload_n hX dX1_tiredTogether_15 2 rfl ?_
      obtain ⟨hi6, hP⟩ := gd_e hP
      refine V_iald hX (tb_X1_1 ha1) hi6 dX1_tiredTogether_16 ?_
      refine V_iadd hX dX1_tiredTogether_17 ?_
      refine V_topi (fun x7 ex7 => ?_)
      replace hP := lt_r ex7 hP
      refine V_istore_n (lv' := [(1, .int x7), (0, rf S a1), (2, .int x3)]) hX dX1_tiredTogether_18 (by decide) rfl ?_
      obtain ⟨x8, ex8⟩ : ∃ y : Int32, y = x3 + 1 := ⟨_, rfl⟩
      replace hP := lt_r ex8 hP
      refine V_iinc (v := x8) (lv' := [(2, .int x8), (1, .int x7), (0, rf S a1)]) hX dX1_tiredTogether_19 (j := 2) rfl (by decide) (by rw [ex8]; rfl) rfl ?_
      refine V_goto (tgt := 4) hX dX1_tiredTogether_22 (by decide) ?_
      refine V_sub (lv' := [(0, rf S a1), (1, .int x7), (2, .int x8)]) [2, 1, 0] rfl ?_
      exact ih _ _ _  hP
def P_X1_tiredTogether (F : Nat) (w : Wd) (a1 : Nat) : Option (Int32 × Wd) := L_X1_tiredTogether_4 F a1 (fun w x4 => some (x4, w)) F w 0 0
set_option maxRecDepth 100000 in
set_option maxHeartbeats 4000000 in
theorem s_X1_tiredTogether {X : Cx} {S : Sx} {r : Int32 × Wd} {F : Nat} {w : Wd} {a1 : Nat} (ha1 : isX1 a1 = true) (hX : Ok X S cX1_tiredTogether RX1 3 rm_X1_tiredTogether) (hR : HRt X S cX1_tiredTogether .int r) (hP : P_X1_tiredTogether F w a1 = some r) : V X S w 0 [(0, rf S a1)] [] := by
  unfold P_X1_tiredTogether at hP
  refine V_iconst (v := 0) hX dX1_tiredTogether_0 (by decide) ?_
  refine V_istore_n (lv' := [(1, .int 0), (0, rf S a1)]) hX dX1_tiredTogether_1 (by decide) rfl ?_
  refine V_iconst (v := 0) hX dX1_tiredTogether_2 (by decide) ?_
  refine V_istore_n (lv' := [(2, .int 0), (1, .int 0), (0, rf S a1)]) hX dX1_tiredTogether_3 (by decide) rfl ?_
  refine V_sub (lv' := [(0, rf S a1), (1, .int 0), (2, .int 0)]) [2, 1, 0] rfl ?_
  have k9 : ∀ (w : Wd) (x4 : Int32) , (some (x4, w)) = some r → V X S w 25 [(1, .int x4)] [] := by
    intro w x4  hP
    refine V_iload_n hX dX1_tiredTogether_25 0 rfl ?_
    exact hR _ _ _ _ (Option.some.inj hP) rfl dX1_tiredTogether_26
  exact sL_X1_tiredTogether_4 hX hR ha1 k9 F _ _ _  hP
theorem c_X1_tiredTogether (l : Launch) (S : Sx) {r : Int32 × Wd} {F : Nat} {w : Wd} {a1 : Nat} (ha1 : isX1 a1 = true) (h : P_X1_tiredTogether F w a1 = some r) : Met l yX1_tiredTogether (wsg yX1_tiredTogether cX1_tiredTogether 3 (some .int)) rm_X1_tiredTogether (PC S w [rf S a1]) (QCi S r) 0 0 (Aw S) :=
  met_i (by decide) rfl (Nat.le_of_ble_eq_true rfl) ⟨rfl, rfl⟩ (fun X hX hR => s_X1_tiredTogether ha1 hX hR h)

-- MustNotStop$Bell.workAndRest()V
abbrev rm_X1_workAndRest : Room := { frames := 1, cells := 0, slots := 0, locals := 64 }
theorem nk_X1_workAndRest : MNk yX1_workAndRest RX1 0 := ⟨rfl, by decide, by decide, by decide +kernel⟩
def K_X1_workAndRest_62 (F : Nat) (a1 : Nat) (k69 : Wd → Option (Wd)) (rc : Wd → Int32 → Option (Wd)) (w : Wd) (x8 : Int32) (x9 : Int32) (x10 : Int32) : Option (Wd) := gd (inB x10 8) (lt (sI w (a1 + 1) x10.toNatClampNeg x9) (fun w12 => lt (x8 + 1 : Int32) (fun x13 => rc w12 x13)))
set_option maxRecDepth 100000 in
set_option maxHeartbeats 4000000 in
theorem sK_X1_workAndRest_62 {X : Cx} {S : Sx} {r : Wd} {F : Nat} {a1 : Nat} {k69 : Wd → Option (Wd)} {rc : Wd → Int32 → Option (Wd)} {w : Wd} {x8 : Int32} {x9 : Int32} {x10 : Int32} (hX : Ok X S cX1_workAndRest RX1 3 rm_X1_workAndRest) (hR : HRv X S cX1_workAndRest r) (ha1 : isX1 a1 = true) (hk69 : ∀ (w : Wd), k69 w = some r → V X S w 69 [] []) (hrc : ∀ (w : Wd) (x2 : Int32) , rc w x2 = some r → V X S w 2 [(0, rf S a1), (1, .int x2)] [])  (hP : K_X1_workAndRest_62 F a1 k69 rc w x8 x9 x10 = some r) : V X S w 62 [(0, rf S a1), (1, .int x8)] [.int x9, .int x10, rf S (a1 + 1)] := by
  unfold K_X1_workAndRest_62 at hP
  obtain ⟨hi11, hP⟩ := gd_e hP
  refine V_iast hX (tb_X1_1 ha1) hi11 dX1_workAndRest_62 (fun w12 ew12 => ?_)
  replace hP := lt_r ew12 hP
  obtain ⟨x13, ex13⟩ : ∃ y : Int32, y = x8 + 1 := ⟨_, rfl⟩
  replace hP := lt_r ex13 hP
  refine V_iinc (v := x13) (lv' := [(1, .int x13), (0, rf S a1)]) hX dX1_workAndRest_63 (j := 1) rfl (by decide) (by rw [ex13]; rfl) rfl ?_
  refine V_goto (tgt := 2) hX dX1_workAndRest_66 (by decide) ?_
  refine V_sub (lv' := [(0, rf S a1), (1, .int x13)]) [1, 0] rfl ?_
  exact hrc _ _  hP
def L_X1_workAndRest_2 (F : Nat) (a1 : Nat) (k69 : Wd → Option (Wd)) : Nat → Wd → Int32 → Option (Wd)
  | 0, _, _ => none
  | n + 1, w, x2 => (if (8 : Int32) ≤ x2 then k69 w  else lt (if ((ishrI (gI w a1 1) x2) &&& 1) = 0 then 0 else 1 : Int32) (fun x5 => (if x5 = 0 then gd (inB x2 8) (K_X1_workAndRest_62 F a1 k69 ((L_X1_workAndRest_2 F a1 k69 n)) w x2 (maxI 0 ((gI w (a1 + 1) x2.toNatClampNeg) - 1)) x2) else gd (inB x2 8) (K_X1_workAndRest_62 F a1 k69 ((L_X1_workAndRest_2 F a1 k69 n)) w x2 (minI 99 ((gI w (a1 + 1) x2.toNatClampNeg) + 2)) x2))))
set_option maxRecDepth 100000 in
set_option maxHeartbeats 4000000 in
theorem sL_X1_workAndRest_2 {X : Cx} {S : Sx} {r : Wd} {F : Nat} {a1 : Nat} {k69 : Wd → Option (Wd)} (hX : Ok X S cX1_workAndRest RX1 3 rm_X1_workAndRest) (hR : HRv X S cX1_workAndRest r) (ha1 : isX1 a1 = true) (hk69 : ∀ (w : Wd), k69 w = some r → V X S w 69 [] []) : ∀ (n : Nat) (w : Wd) (x2 : Int32) , L_X1_workAndRest_2 F a1 k69 n w x2 = some r → V X S w 2 [(0, rf S a1), (1, .int x2)] [] := by
  intro n
  induction n with
  | zero =>
    intro w x2  hP
    exact nn hP
  | succ n ih =>
    intro w x2  hP
    rw [L_X1_workAndRest_2] at hP
    refine V_iload_n hX dX1_workAndRest_2 1 rfl ?_
    refine V_bipush (v := 8) hX dX1_workAndRest_3 (by decide) ?_
    refine V_icmp_ge (tgt := 69) hX dX1_workAndRest_5 (by decide) (fun hc3 => ?_) (fun hc3 => ?_)
    · replace hP := ite_t hc3 hP
      refine V_sub (lv' := []) [] rfl ?_
      exact hk69 _   hP
    · replace hP := ite_f hc3 hP
      refine V_aload_n hX dX1_workAndRest_8 0 rfl ?_
      refine V_getI hX fk_X1_15 (tb_X1 ha1) (fun _ _ _ => rfl) dX1_workAndRest_9 ?_
      refine V_iload_n hX dX1_workAndRest_12 1 rfl ?_
      refine V_ishr hX dX1_workAndRest_13 ?_
      refine V_iconst (v := 1) hX dX1_workAndRest_14 (by decide) ?_
      refine V_iand hX dX1_workAndRest_15 ?_
      have k15 : V X S w 24 [(0, rf S a1), (1, .int x2)] [.int (if ((ishrI (gI w a1 1) x2) &&& 1) = 0 then 0 else 1)] := by
        refine V_topi (fun x5 ex5 => ?_)
        replace hP := lt_r ex5 hP
        refine V_istore_n (lv' := [(2, .int x5), (0, rf S a1), (1, .int x2)]) hX dX1_workAndRest_24 (by decide) rfl ?_
        refine V_aload_n hX dX1_workAndRest_25 1 rfl ?_
        refine V_getF (j := a1 + 1) hX fk_X1_9 (tb_X1 ha1) (fun _ _ _ => rfl) dX1_workAndRest_26 ?_
        refine V_iload_n hX dX1_workAndRest_29 2 rfl ?_
        refine V_iload_n hX dX1_workAndRest_30 0 rfl ?_
        refine V_if_eq (tgt := 50) hX dX1_workAndRest_31 (by decide) (fun hc6 => ?_) (fun hc6 => ?_)
        · replace hP := ite_t hc6 hP
          refine V_iconst (v := 0) hX dX1_workAndRest_50 (by decide) ?_
          refine V_aload_n hX dX1_workAndRest_51 1 rfl ?_
          refine V_getF (j := a1 + 1) hX fk_X1_9 (tb_X1 ha1) (fun _ _ _ => rfl) dX1_workAndRest_52 ?_
          refine V_iload_n hX dX1_workAndRest_55 2 rfl ?_
          obtain ⟨hi7, hP⟩ := gd_e hP
          refine V_iald hX (tb_X1_1 ha1) hi7 dX1_workAndRest_56 ?_
          refine V_iconst (v := 1) hX dX1_workAndRest_57 (by decide) ?_
          refine V_isub hX dX1_workAndRest_58 ?_
          refine V_max hX mk_X1_46 ⟨Nat.le_of_ble_eq_true rfl, Nat.le_of_ble_eq_true rfl⟩ dX1_workAndRest_59 ?_
          refine V_sub (lv' := [(0, rf S a1), (1, .int x2)]) [1, 2] rfl ?_
          exact sK_X1_workAndRest_62 hX hR ha1 hk69 ih  hP
        · replace hP := ite_f hc6 hP
          refine V_bipush (v := 99) hX dX1_workAndRest_34 (by decide) ?_
          refine V_aload_n hX dX1_workAndRest_36 1 rfl ?_
          refine V_getF (j := a1 + 1) hX fk_X1_9 (tb_X1 ha1) (fun _ _ _ => rfl) dX1_workAndRest_37 ?_
          refine V_iload_n hX dX1_workAndRest_40 2 rfl ?_
          obtain ⟨hi14, hP⟩ := gd_e hP
          refine V_iald hX (tb_X1_1 ha1) hi14 dX1_workAndRest_41 ?_
          refine V_iconst (v := 2) hX dX1_workAndRest_42 (by decide) ?_
          refine V_iadd hX dX1_workAndRest_43 ?_
          refine V_min hX mk_X1_40 ⟨Nat.le_of_ble_eq_true rfl, Nat.le_of_ble_eq_true rfl⟩ dX1_workAndRest_44 ?_
          refine V_goto (tgt := 62) hX dX1_workAndRest_47 (by decide) ?_
          refine V_sub (lv' := [(0, rf S a1), (1, .int x2)]) [1, 2] rfl ?_
          exact sK_X1_workAndRest_62 hX hR ha1 hk69 ih  hP
      refine V_if_eq (tgt := 23) hX dX1_workAndRest_16 (by decide) (fun hc4 => ?_) (fun hc4 => ?_)
      · refine V_iconst (v := 0) hX dX1_workAndRest_23 (by decide) ?_
        refine V_selT (c := ((ishrI (gI w a1 1) x2) &&& 1) = 0) (b := 1) hc4 ?_
        exact k15
      · refine V_iconst (v := 1) hX dX1_workAndRest_19 (by decide) ?_
        refine V_goto (tgt := 24) hX dX1_workAndRest_20 (by decide) ?_
        refine V_selF (c := ((ishrI (gI w a1 1) x2) &&& 1) = 0) (a := 0) hc4 ?_
        exact k15
def P_X1_workAndRest (F : Nat) (w : Wd) (a1 : Nat) : Option (Wd) := L_X1_workAndRest_2 F a1 (fun w  => some w) F w 0
set_option maxRecDepth 100000 in
set_option maxHeartbeats 4000000 in
theorem s_X1_workAndRest {X : Cx} {S : Sx} {r : Wd} {F : Nat} {w : Wd} {a1 : Nat} (ha1 : isX1 a1 = true) (hX : Ok X S cX1_workAndRest RX1 3 rm_X1_workAndRest) (hR : HRv X S cX1_workAndRest r) (hP : P_X1_workAndRest F w a1 = some r) : V X S w 0 [(0, rf S a1)] [] := by
  unfold P_X1_workAndRest at hP
  refine V_iconst (v := 0) hX dX1_workAndRest_0 (by decide) ?_
  refine V_istore_n (lv' := [(1, .int 0), (0, rf S a1)]) hX dX1_workAndRest_1 (by decide) rfl ?_
  refine V_sub (lv' := [(0, rf S a1), (1, .int 0)]) [1, 0] rfl ?_
  have k16 : ∀ (w : Wd)  , (some w) = some r → V X S w 69 [] [] := by
    intro w   hP
    exact hR _ _ _ (Option.some.inj hP) dX1_workAndRest_69
  exact sL_X1_workAndRest_2 hX hR ha1 k16 F _ _  hP
theorem c_X1_workAndRest (l : Launch) (S : Sx) {r : Wd} {F : Nat} {w : Wd} {a1 : Nat} (ha1 : isX1 a1 = true) (h : P_X1_workAndRest F w a1 = some r) : Met l yX1_workAndRest (wsg yX1_workAndRest cX1_workAndRest 3 none) rm_X1_workAndRest (PC S w [rf S a1]) (QCv S r) 0 0 (Aw S) :=
  met_v (by decide) rfl (Nat.le_of_ble_eq_true rfl) ⟨rfl, rfl⟩ (fun X hX hR => s_X1_workAndRest ha1 hX hR h)

-- MustNotStop$Bell.copy(LMustNotStop$Bell;)V
abbrev rm_X1_copy : Room := { frames := 1, cells := 0, slots := 0, locals := 64 }
theorem nk_X1_copy : MNk yX1_copy RX1 1 := ⟨rfl, by decide, by decide, by decide +kernel⟩
def L_X1_copy_2 (F : Nat) (a1 : Nat) (a2 : Nat) (k26 : Wd → Option (Wd)) : Nat → Wd → Int32 → Option (Wd)
  | 0, _, _ => none
  | n + 1, w, x3 => (if (8 : Int32) ≤ x3 then k26 w  else gd (inB x3 8) (gd (inB x3 8) (lt (sI w (a1 + 1) x3.toNatClampNeg (gI w (a2 + 1) x3.toNatClampNeg)) (fun w7 => lt (x3 + 1 : Int32) (fun x8 => L_X1_copy_2 F a1 a2 k26 n w7 x8)))))
set_option maxRecDepth 100000 in
set_option maxHeartbeats 4000000 in
theorem sL_X1_copy_2 {X : Cx} {S : Sx} {r : Wd} {F : Nat} {a1 : Nat} {a2 : Nat} {k26 : Wd → Option (Wd)} (hX : Ok X S cX1_copy RX1 3 rm_X1_copy) (hR : HRv X S cX1_copy r) (ha1 : isX1 a1 = true) (ha2 : isX1 a2 = true) (hk26 : ∀ (w : Wd), k26 w = some r → V X S w 26 [(0, rf S a1), (1, rf S a2)] []) : ∀ (n : Nat) (w : Wd) (x3 : Int32) , L_X1_copy_2 F a1 a2 k26 n w x3 = some r → V X S w 2 [(0, rf S a1), (1, rf S a2), (2, .int x3)] [] := by
  intro n
  induction n with
  | zero =>
    intro w x3  hP
    exact nn hP
  | succ n ih =>
    intro w x3  hP
    rw [L_X1_copy_2] at hP
    refine V_iload_n hX dX1_copy_2 2 rfl ?_
    refine V_bipush (v := 8) hX dX1_copy_3 (by decide) ?_
    refine V_icmp_ge (tgt := 26) hX dX1_copy_5 (by decide) (fun hc4 => ?_) (fun hc4 => ?_)
    · replace hP := ite_t hc4 hP
      refine V_sub (lv' := [(0, rf S a1), (1, rf S a2)]) [0, 1] rfl ?_
      exact hk26 _   hP
    · replace hP := ite_f hc4 hP
      refine V_aload_n hX dX1_copy_8 0 rfl ?_
      refine V_getF (j := a1 + 1) hX fk_X1_9 (tb_X1 ha1) (fun _ _ _ => rfl) dX1_copy_9 ?_
      refine V_iload_n hX dX1_copy_12 2 rfl ?_
      refine V_aload_n hX dX1_copy_13 1 rfl ?_
      refine V_getF (j := a2 + 1) hX fk_X1_9 (tb_X1 ha2) (fun _ _ _ => rfl) dX1_copy_14 ?_
      refine V_iload_n hX dX1_copy_17 2 rfl ?_
      obtain ⟨hi5, hP⟩ := gd_e hP
      refine V_iald hX (tb_X1_1 ha2) hi5 dX1_copy_18 ?_
      obtain ⟨hi6, hP⟩ := gd_e hP
      refine V_iast hX (tb_X1_1 ha1) hi6 dX1_copy_19 (fun w7 ew7 => ?_)
      replace hP := lt_r ew7 hP
      obtain ⟨x8, ex8⟩ : ∃ y : Int32, y = x3 + 1 := ⟨_, rfl⟩
      replace hP := lt_r ex8 hP
      refine V_iinc (v := x8) (lv' := [(2, .int x8), (0, rf S a1), (1, rf S a2)]) hX dX1_copy_20 (j := 2) rfl (by decide) (by rw [ex8]; rfl) rfl ?_
      refine V_goto (tgt := 2) hX dX1_copy_23 (by decide) ?_
      refine V_sub (lv' := [(0, rf S a1), (1, rf S a2), (2, .int x8)]) [1, 2, 0] rfl ?_
      exact ih _ _  hP
def P_X1_copy (F : Nat) (w : Wd) (a1 : Nat) (a2 : Nat) : Option (Wd) := L_X1_copy_2 F a1 a2 (fun w  => lt (sI w a1 1 (gI w a2 1)) (fun w9 => lt (sI w9 a1 2 (gI w9 a2 2)) (fun w10 => lt (sI w10 a1 3 (gI w10 a2 3)) (fun w11 => lt (sI w11 a1 4 (gI w11 a2 4)) (fun w12 => lt (sI w12 a1 5 (gI w12 a2 5)) (fun w13 => lt (sI w13 a1 6 (gI w13 a2 6)) (fun w14 => lt (sI w14 a1 7 (gI w14 a2 7)) (fun w15 => lt (sI w15 a1 8 (gI w15 a2 8)) (fun w16 => some w16))))))))) F w 0
set_option maxRecDepth 100000 in
set_option maxHeartbeats 4000000 in
theorem s_X1_copy {X : Cx} {S : Sx} {r : Wd} {F : Nat} {w : Wd} {a1 : Nat} {a2 : Nat} (ha1 : isX1 a1 = true) (ha2 : isX1 a2 = true) (hX : Ok X S cX1_copy RX1 3 rm_X1_copy) (hR : HRv X S cX1_copy r) (hP : P_X1_copy F w a1 a2 = some r) : V X S w 0 [(0, rf S a1), (1, rf S a2)] [] := by
  unfold P_X1_copy at hP
  refine V_iconst (v := 0) hX dX1_copy_0 (by decide) ?_
  refine V_istore_n (lv' := [(2, .int 0), (0, rf S a1), (1, rf S a2)]) hX dX1_copy_1 (by decide) rfl ?_
  refine V_sub (lv' := [(0, rf S a1), (1, rf S a2), (2, .int 0)]) [1, 2, 0] rfl ?_
  have k17 : ∀ (w : Wd)  , (lt (sI w a1 1 (gI w a2 1)) (fun w9 => lt (sI w9 a1 2 (gI w9 a2 2)) (fun w10 => lt (sI w10 a1 3 (gI w10 a2 3)) (fun w11 => lt (sI w11 a1 4 (gI w11 a2 4)) (fun w12 => lt (sI w12 a1 5 (gI w12 a2 5)) (fun w13 => lt (sI w13 a1 6 (gI w13 a2 6)) (fun w14 => lt (sI w14 a1 7 (gI w14 a2 7)) (fun w15 => lt (sI w15 a1 8 (gI w15 a2 8)) (fun w16 => some w16))))))))) = some r → V X S w 26 [(0, rf S a1), (1, rf S a2)] [] := by
    intro w   hP
    refine V_aload_n hX dX1_copy_26 0 rfl ?_
    refine V_aload_n hX dX1_copy_27 1 rfl ?_
    refine V_getI hX fk_X1_15 (tb_X1 ha2) (fun _ _ _ => rfl) dX1_copy_28 ?_
    refine V_putI hX fw_X1_15 (tb_X1 ha1) (fun _ _ _ => ⟨Nat.le_of_ble_eq_true rfl, rfl⟩) dX1_copy_31 (fun w9 ew9 => ?_)
    replace hP := lt_r ew9 hP
    refine V_aload_n hX dX1_copy_34 0 rfl ?_
    refine V_aload_n hX dX1_copy_35 1 rfl ?_
    refine V_getI hX fk_X1_19 (tb_X1 ha2) (fun _ _ _ => rfl) dX1_copy_36 ?_
    refine V_putI hX fw_X1_19 (tb_X1 ha1) (fun _ _ _ => ⟨Nat.le_of_ble_eq_true rfl, rfl⟩) dX1_copy_39 (fun w10 ew10 => ?_)
    replace hP := lt_r ew10 hP
    refine V_aload_n hX dX1_copy_42 0 rfl ?_
    refine V_aload_n hX dX1_copy_43 1 rfl ?_
    refine V_getI hX fk_X1_22 (tb_X1 ha2) (fun _ _ _ => rfl) dX1_copy_44 ?_
    refine V_putI hX fw_X1_22 (tb_X1 ha1) (fun _ _ _ => ⟨Nat.le_of_ble_eq_true rfl, rfl⟩) dX1_copy_47 (fun w11 ew11 => ?_)
    replace hP := lt_r ew11 hP
    refine V_aload_n hX dX1_copy_50 0 rfl ?_
    refine V_aload_n hX dX1_copy_51 1 rfl ?_
    refine V_getI hX fk_X1_25 (tb_X1 ha2) (fun _ _ _ => rfl) dX1_copy_52 ?_
    refine V_putI hX fw_X1_25 (tb_X1 ha1) (fun _ _ _ => ⟨Nat.le_of_ble_eq_true rfl, rfl⟩) dX1_copy_55 (fun w12 ew12 => ?_)
    replace hP := lt_r ew12 hP
    refine V_aload_n hX dX1_copy_58 0 rfl ?_
    refine V_aload_n hX dX1_copy_59 1 rfl ?_
    refine V_getI hX fk_X1_28 (tb_X1 ha2) (fun _ _ _ => rfl) dX1_copy_60 ?_
    refine V_putI hX fw_X1_28 (tb_X1 ha1) (fun _ _ _ => ⟨Nat.le_of_ble_eq_true rfl, rfl⟩) dX1_copy_63 (fun w13 ew13 => ?_)
    replace hP := lt_r ew13 hP
    refine V_aload_n hX dX1_copy_66 0 rfl ?_
    refine V_aload_n hX dX1_copy_67 1 rfl ?_
    refine V_getI hX fk_X1_31 (tb_X1 ha2) (fun _ _ _ => rfl) dX1_copy_68 ?_
    refine V_putI hX fw_X1_31 (tb_X1 ha1) (fun _ _ _ => ⟨Nat.le_of_ble_eq_true rfl, rfl⟩) dX1_copy_71 (fun w14 ew14 => ?_)
    replace hP := lt_r ew14 hP
    refine V_aload_n hX dX1_copy_74 0 rfl ?_
    refine V_aload_n hX dX1_copy_75 1 rfl ?_
    refine V_getI hX fk_X1_34 (tb_X1 ha2) (fun _ _ _ => rfl) dX1_copy_76 ?_
    refine V_putI hX fw_X1_34 (tb_X1 ha1) (fun _ _ _ => ⟨Nat.le_of_ble_eq_true rfl, rfl⟩) dX1_copy_79 (fun w15 ew15 => ?_)
    replace hP := lt_r ew15 hP
    refine V_aload_n hX dX1_copy_82 0 rfl ?_
    refine V_aload_n hX dX1_copy_83 1 rfl ?_
    refine V_getI hX fk_X1_37 (tb_X1 ha2) (fun _ _ _ => rfl) dX1_copy_84 ?_
    refine V_putI hX fw_X1_37 (tb_X1 ha1) (fun _ _ _ => ⟨Nat.le_of_ble_eq_true rfl, rfl⟩) dX1_copy_87 (fun w16 ew16 => ?_)
    replace hP := lt_r ew16 hP
    exact hR _ _ _ (Option.some.inj hP) dX1_copy_90
  exact sL_X1_copy_2 hX hR ha1 ha2 k17 F _ _  hP
theorem c_X1_copy (l : Launch) (S : Sx) {r : Wd} {F : Nat} {w : Wd} {a1 : Nat} {a2 : Nat} (ha1 : isX1 a1 = true) (ha2 : isX1 a2 = true) (h : P_X1_copy F w a1 a2 = some r) : Met l yX1_copy (wsg yX1_copy cX1_copy 3 none) rm_X1_copy (PC S w [rf S a1, rf S a2]) (QCv S r) 0 0 (Aw S) :=
  met_v (by decide) rfl (Nat.le_of_ble_eq_true rfl) ⟨rfl, rfl⟩ (fun X hX hR => s_X1_copy ha1 ha2 hX hR h)

-- MustNotStop$Row.add(J)V
abbrev rm_X7_add : Room := { frames := 1, cells := 0, slots := 0, locals := 64 }
theorem nk_X7_add : MNk yX7_add RX7 1 := ⟨rfl, by decide, by decide, by decide +kernel⟩
def P_X7_add (F : Nat) (w : Wd) (x1 : Int64) : Option (Wd) := (if (gI w 3 1) < 0 then some w else (if (6 : Int32) ≤ (gI w 3 1) then some w else gd (inB (gI w 3 1) 6) (lt (sJ w 4 (gI w 3 1).toNatClampNeg x1) (fun w5 => lt (sI w5 3 1 ((gI w5 3 1) + 1)) (fun w6 => some w6)))))
set_option maxRecDepth 100000 in
set_option maxHeartbeats 4000000 in
theorem s_X7_add {X : Cx} {S : Sx} {r : Wd} {F : Nat} {w : Wd} {x1 : Int64}  (hX : Ok X S cX7_add RX7 3 rm_X7_add) (hR : HRv X S cX7_add r) (hP : P_X7_add F w x1 = some r) : V X S w 0 [(0, rf S 3), (1, .long x1)] [] := by
  unfold P_X7_add at hP
  refine V_aload_n hX dX7_add_0 0 rfl ?_
  refine V_getI hX fk_X7_13 tb_3 (fun _ _ _ => rfl) dX7_add_1 ?_
  refine V_if_lt (tgt := 39) hX dX7_add_4 (by decide) (fun hc2 => ?_) (fun hc2 => ?_)
  · replace hP := ite_t hc2 hP
    exact hR _ _ _ (Option.some.inj hP) dX7_add_39
  · replace hP := ite_f hc2 hP
    refine V_aload_n hX dX7_add_7 0 rfl ?_
    refine V_getI hX fk_X7_13 tb_3 (fun _ _ _ => rfl) dX7_add_8 ?_
    refine V_aload_n hX dX7_add_11 0 rfl ?_
    refine V_getF (j := 4) hX fk_X7_7 tb_3 (fun _ _ _ => rfl) dX7_add_12 ?_
    refine V_alenJ (v := 6) hX tb_4 (by decide) dX7_add_15 ?_
    refine V_icmp_ge (tgt := 39) hX dX7_add_16 (by decide) (fun hc3 => ?_) (fun hc3 => ?_)
    · replace hP := ite_t hc3 hP
      exact hR _ _ _ (Option.some.inj hP) dX7_add_39
    · replace hP := ite_f hc3 hP
      refine V_aload_n hX dX7_add_19 0 rfl ?_
      refine V_getF (j := 4) hX fk_X7_7 tb_3 (fun _ _ _ => rfl) dX7_add_20 ?_
      refine V_aload_n hX dX7_add_23 0 rfl ?_
      refine V_getI hX fk_X7_13 tb_3 (fun _ _ _ => rfl) dX7_add_24 ?_
      refine V_lload_n hX dX7_add_27 1 rfl ?_
      obtain ⟨hi4, hP⟩ := gd_e hP
      refine V_last hX tb_4 hi4 dX7_add_28 (fun w5 ew5 => ?_)
      replace hP := lt_r ew5 hP
      refine V_aload_n hX dX7_add_29 0 rfl ?_
      refine V_dup hX dX7_add_30 rfl ?_
      refine V_getI hX fk_X7_13 tb_3 (fun _ _ _ => rfl) dX7_add_31 ?_
      refine V_iconst (v := 1) hX dX7_add_34 (by decide) ?_
      refine V_iadd hX dX7_add_35 ?_
      refine V_putI hX fw_X7_13 tb_3 (fun _ _ _ => ⟨Nat.le_of_ble_eq_true rfl, rfl⟩) dX7_add_36 (fun w6 ew6 => ?_)
      replace hP := lt_r ew6 hP
      exact hR _ _ _ (Option.some.inj hP) dX7_add_39
theorem c_X7_add (l : Launch) (S : Sx) {r : Wd} {F : Nat} {w : Wd} {x1 : Int64}  (h : P_X7_add F w x1 = some r) : Met l yX7_add (wsg yX7_add cX7_add 3 none) rm_X7_add (PC S w [rf S 3, .long x1]) (QCv S r) 0 0 (Aw S) :=
  met_v (by decide) rfl (Nat.le_of_ble_eq_true rfl) ⟨rfl, rfl⟩ (fun X hX hR => s_X7_add  hX hR h)

-- MustNotStop$Row.at(I)J
abbrev rm_X7_at : Room := { frames := 1, cells := 0, slots := 0, locals := 64 }
theorem nk_X7_at : MNk yX7_at RX7 1 := ⟨rfl, by decide, by decide, by decide +kernel⟩
def P_X7_at (F : Nat) (w : Wd) (x1 : Int32) : Option (Int64 × Wd) := (if x1 < 0 then some (0, w) else (if (gI w 3 1) ≤ x1 then some (0, w) else (if (6 : Int32) ≤ x1 then some (0, w) else gd (inB x1 6) (some (gJ w 4 x1.toNatClampNeg, w)))))
set_option maxRecDepth 100000 in
set_option maxHeartbeats 4000000 in
theorem s_X7_at {X : Cx} {S : Sx} {r : Int64 × Wd} {F : Nat} {w : Wd} {x1 : Int32}  (hX : Ok X S cX7_at RX7 2 rm_X7_at) (hR : HRl X S cX7_at r) (hP : P_X7_at F w x1 = some r) : V X S w 0 [(0, rf S 3), (1, .int x1)] [] := by
  unfold P_X7_at at hP
  refine V_iload_n hX dX7_at_0 1 rfl ?_
  refine V_if_lt (tgt := 30) hX dX7_at_1 (by decide) (fun hc2 => ?_) (fun hc2 => ?_)
  · replace hP := ite_t hc2 hP
    refine V_lconst (v := 0) hX dX7_at_30 rfl ?_
    exact hR _ _ _ _ (Option.some.inj hP) dX7_at_31
  · replace hP := ite_f hc2 hP
    refine V_iload_n hX dX7_at_4 1 rfl ?_
    refine V_aload_n hX dX7_at_5 0 rfl ?_
    refine V_getI hX fk_X7_13 tb_3 (fun _ _ _ => rfl) dX7_at_6 ?_
    refine V_icmp_ge (tgt := 30) hX dX7_at_9 (by decide) (fun hc3 => ?_) (fun hc3 => ?_)
    · replace hP := ite_t hc3 hP
      refine V_lconst (v := 0) hX dX7_at_30 rfl ?_
      exact hR _ _ _ _ (Option.some.inj hP) dX7_at_31
    · replace hP := ite_f hc3 hP
      refine V_iload_n hX dX7_at_12 1 rfl ?_
      refine V_aload_n hX dX7_at_13 0 rfl ?_
      refine V_getF (j := 4) hX fk_X7_7 tb_3 (fun _ _ _ => rfl) dX7_at_14 ?_
      refine V_alenJ (v := 6) hX tb_4 (by decide) dX7_at_17 ?_
      refine V_icmp_ge (tgt := 30) hX dX7_at_18 (by decide) (fun hc4 => ?_) (fun hc4 => ?_)
      · replace hP := ite_t hc4 hP
        refine V_lconst (v := 0) hX dX7_at_30 rfl ?_
        exact hR _ _ _ _ (Option.some.inj hP) dX7_at_31
      · replace hP := ite_f hc4 hP
        refine V_aload_n hX dX7_at_21 0 rfl ?_
        refine V_getF (j := 4) hX fk_X7_7 tb_3 (fun _ _ _ => rfl) dX7_at_22 ?_
        refine V_iload_n hX dX7_at_25 1 rfl ?_
        obtain ⟨hi5, hP⟩ := gd_e hP
        refine V_lald hX tb_4 hi5 dX7_at_26 ?_
        refine V_goto (tgt := 31) hX dX7_at_27 (by decide) ?_
        exact hR _ _ _ _ (Option.some.inj hP) dX7_at_31
theorem c_X7_at (l : Launch) (S : Sx) {r : Int64 × Wd} {F : Nat} {w : Wd} {x1 : Int32}  (h : P_X7_at F w x1 = some r) : Met l yX7_at (wsg yX7_at cX7_at 2 (some .long)) rm_X7_at (PC S w [rf S 3, .int x1]) (QCl S r) 0 0 (Aw S) :=
  met_l (by decide) rfl (Nat.le_of_ble_eq_true rfl) ⟨rfl, rfl⟩ (fun X hX hR => s_X7_at  hX hR h)

-- MustNotStop$Text.at(I)I
abbrev rm_X8_at : Room := { frames := 1, cells := 0, slots := 0, locals := 64 }
theorem nk_X8_at : MNk yX8_at RX8 1 := ⟨rfl, by decide, by decide, by decide +kernel⟩
def P_X8_at (F : Nat) (w : Wd) (x1 : Int32) : Option (Int32 × Wd) := (if x1 < 0 then some ((-1), w) else (if (gI w 1 1) ≤ x1 then some ((-1), w) else (if (80 : Int32) ≤ x1 then some ((-1), w) else gd (inB x1 80) (some (gI w 2 x1.toNatClampNeg, w)))))
set_option maxRecDepth 100000 in
set_option maxHeartbeats 4000000 in
theorem s_X8_at {X : Cx} {S : Sx} {r : Int32 × Wd} {F : Nat} {w : Wd} {x1 : Int32}  (hX : Ok X S cX8_at RX8 2 rm_X8_at) (hR : HRt X S cX8_at .int r) (hP : P_X8_at F w x1 = some r) : V X S w 0 [(0, rf S 1), (1, .int x1)] [] := by
  unfold P_X8_at at hP
  refine V_iload_n hX dX8_at_0 1 rfl ?_
  refine V_if_lt (tgt := 30) hX dX8_at_1 (by decide) (fun hc2 => ?_) (fun hc2 => ?_)
  · replace hP := ite_t hc2 hP
    refine V_iconst (v := (-1)) hX dX8_at_30 (by decide) ?_
    exact hR _ _ _ _ (Option.some.inj hP) rfl dX8_at_31
  · replace hP := ite_f hc2 hP
    refine V_iload_n hX dX8_at_4 1 rfl ?_
    refine V_aload_n hX dX8_at_5 0 rfl ?_
    refine V_getI hX fk_X8_15 tb_1 (fun _ _ _ => rfl) dX8_at_6 ?_
    refine V_icmp_ge (tgt := 30) hX dX8_at_9 (by decide) (fun hc3 => ?_) (fun hc3 => ?_)
    · replace hP := ite_t hc3 hP
      refine V_iconst (v := (-1)) hX dX8_at_30 (by decide) ?_
      exact hR _ _ _ _ (Option.some.inj hP) rfl dX8_at_31
    · replace hP := ite_f hc3 hP
      refine V_iload_n hX dX8_at_12 1 rfl ?_
      refine V_aload_n hX dX8_at_13 0 rfl ?_
      refine V_getF (j := 2) hX fk_X8_9 tb_1 (fun _ _ _ => rfl) dX8_at_14 ?_
      refine V_alenI (v := 80) hX tb_2 (by decide) dX8_at_17 ?_
      refine V_icmp_ge (tgt := 30) hX dX8_at_18 (by decide) (fun hc4 => ?_) (fun hc4 => ?_)
      · replace hP := ite_t hc4 hP
        refine V_iconst (v := (-1)) hX dX8_at_30 (by decide) ?_
        exact hR _ _ _ _ (Option.some.inj hP) rfl dX8_at_31
      · replace hP := ite_f hc4 hP
        refine V_aload_n hX dX8_at_21 0 rfl ?_
        refine V_getF (j := 2) hX fk_X8_9 tb_1 (fun _ _ _ => rfl) dX8_at_22 ?_
        refine V_iload_n hX dX8_at_25 1 rfl ?_
        obtain ⟨hi5, hP⟩ := gd_e hP
        refine V_iald hX tb_2 hi5 dX8_at_26 ?_
        refine V_goto (tgt := 31) hX dX8_at_27 (by decide) ?_
        exact hR _ _ _ _ (Option.some.inj hP) rfl dX8_at_31
theorem c_X8_at (l : Launch) (S : Sx) {r : Int32 × Wd} {F : Nat} {w : Wd} {x1 : Int32}  (h : P_X8_at F w x1 = some r) : Met l yX8_at (wsg yX8_at cX8_at 2 (some .int)) rm_X8_at (PC S w [rf S 1, .int x1]) (QCi S r) 0 0 (Aw S) :=
  met_i (by decide) rfl (Nat.le_of_ble_eq_true rfl) ⟨rfl, rfl⟩ (fun X hX hR => s_X8_at  hX hR h)

-- MustNotStop$Text.digitAt(I)Z
abbrev rm_X8_digitAt : Room := { frames := 2, cells := 0, slots := 0, locals := 85 }
theorem nk_X8_digitAt : MNk yX8_digitAt RX8 1 := ⟨rfl, by decide, by decide, by decide +kernel⟩
def P_X8_digitAt (F : Nat) (w : Wd) (x1 : Int32) : Option (Int32 × Wd) := bnd (P_X8_at F w x1) (fun x3 w2 => lt (if x3 < 48 then 0 else if (57 : Int32) < x3 then 0 else 1 : Int32) (fun x6 => gd (isZO x6) (some (x6, w2))))
set_option maxRecDepth 100000 in
set_option maxHeartbeats 4000000 in
theorem s_X8_digitAt {X : Cx} {S : Sx} {r : Int32 × Wd} {F : Nat} {w : Wd} {x1 : Int32}  (hX : Ok X S cX8_digitAt RX8 3 rm_X8_digitAt) (hR : HRt X S cX8_digitAt .boolean r) (hP : P_X8_digitAt F w x1 = some r) : V X S w 0 [(0, rf S 1), (1, .int x1)] [] := by
  unfold P_X8_digitAt at hP
  refine V_aload_n hX dX8_digitAt_0 0 rfl ?_
  refine V_iload_n hX dX8_digitAt_1 1 rfl ?_
  obtain ⟨x3, w2, hcw2, hP⟩ := bnd_e hP
  refine V_callVi (As := [.int x1]) (rest := []) hX mk_X8_19 nk_X8_at (fun l => c_X8_at l S  hcw2) tb_1 rfl ⟨rfl, rfl, Nat.le_of_ble_eq_true rfl, Nat.le_of_ble_eq_true rfl⟩ rfl rfl (Nat.le_of_ble_eq_true rfl) dX8_digitAt_2 ?_
  refine V_istore_n (lv' := [(2, .int x3), (0, rf S 1), (1, .int x1)]) hX dX8_digitAt_5 (by decide) rfl ?_
  refine V_iload_n hX dX8_digitAt_6 0 rfl ?_
  refine V_bipush (v := 48) hX dX8_digitAt_7 (by decide) ?_
  have k8 : V X S w2 23 [(2, .int x3), (0, rf S 1), (1, .int x1)] [.int (if x3 < 48 then 0 else if (57 : Int32) < x3 then 0 else 1)] := by
    refine V_topi (fun x6 ex6 => ?_)
    replace hP := lt_r ex6 hP
    obtain ⟨hz7, hP⟩ := gd_e hP
    exact hR _ _ _ _ (Option.some.inj hP) (nar_z hz7) dX8_digitAt_23
  refine V_icmp_lt (tgt := 22) hX dX8_digitAt_9 (by decide) (fun hc5 => ?_) (fun hc5 => ?_)
  · refine V_iconst (v := 0) hX dX8_digitAt_22 (by decide) ?_
    refine V_selT (c := x3 < 48) (b := if (57 : Int32) < x3 then 0 else 1) hc5 ?_
    exact k8
  · refine V_iload_n hX dX8_digitAt_12 0 rfl ?_
    refine V_bipush (v := 57) hX dX8_digitAt_13 (by decide) ?_
    refine V_icmp_gt (tgt := 22) hX dX8_digitAt_15 (by decide) (fun hc4 => ?_) (fun hc4 => ?_)
    · refine V_iconst (v := 0) hX dX8_digitAt_22 (by decide) ?_
      refine V_selT (c := (57 : Int32) < x3) (b := 1) hc4 ?_
      refine V_selF (c := x3 < 48) (a := 0) hc5 ?_
      exact k8
    · refine V_iconst (v := 1) hX dX8_digitAt_18 (by decide) ?_
      refine V_goto (tgt := 23) hX dX8_digitAt_19 (by decide) ?_
      refine V_selF (c := (57 : Int32) < x3) (a := 0) hc4 ?_
      refine V_selF (c := x3 < 48) (a := 0) hc5 ?_
      exact k8
theorem c_X8_digitAt (l : Launch) (S : Sx) {r : Int32 × Wd} {F : Nat} {w : Wd} {x1 : Int32}  (h : P_X8_digitAt F w x1 = some r) : Met l yX8_digitAt (wsg yX8_digitAt cX8_digitAt 3 (some .boolean)) rm_X8_digitAt (PC S w [rf S 1, .int x1]) (QCi S r) 0 0 (Aw S) :=
  met_i (by decide) rfl (Nat.le_of_ble_eq_true rfl) ⟨rfl, rfl⟩ (fun X hX hR => s_X8_digitAt  hX hR h)

-- MustNotStop$Text.number(II)I
abbrev rm_X8_number : Room := { frames := 3, cells := 0, slots := 0, locals := 107 }
theorem nk_X8_number : MNk yX8_number RX8 2 := ⟨rfl, by decide, by decide, by decide +kernel⟩
def L_X8_number_5 (F : Nat) (x1 : Int32) (x2 : Int32) (k45 : Wd → Int32 → Option (Int32 × Wd)) : Nat → Wd → Int32 → Int32 → Option (Int32 × Wd)
  | 0, _, _, _ => none
  | n + 1, w, x3, x4 => (if x2 ≤ x4 then k45 w x3 else bnd (P_X8_digitAt F w (x1 + x4)) (fun x8 w7 => (if x8 = 0 then k45 w7 x3 else bnd (P_X8_at F w7 (x1 + x4)) (fun x11 w10 => lt (((x3 * 10) + x11) - 48 : Int32) (fun x12 => lt (x4 + 1 : Int32) (fun x13 => L_X8_number_5 F x1 x2 k45 n w10 x12 x13))))))
set_option maxRecDepth 100000 in
set_option maxHeartbeats 4000000 in
theorem sL_X8_number_5 {X : Cx} {S : Sx} {r : Int32 × Wd} {F : Nat} {x1 : Int32} {x2 : Int32} {k45 : Wd → Int32 → Option (Int32 × Wd)} (hX : Ok X S cX8_number RX8 5 rm_X8_number) (hR : HRt X S cX8_number .int r)  (hk45 : ∀ (w : Wd) (x5 : Int32) , k45 w x5 = some r → V X S w 45 [(3, .int x5)] []) : ∀ (n : Nat) (w : Wd) (x3 : Int32) (x4 : Int32) , L_X8_number_5 F x1 x2 k45 n w x3 x4 = some r → V X S w 5 [(0, rf S 1), (1, .int x1), (2, .int x2), (3, .int x3), (4, .int x4)] [] := by
  intro n
  induction n with
  | zero =>
    intro w x3 x4  hP
    exact nn hP
  | succ n ih =>
    intro w x3 x4  hP
    rw [L_X8_number_5] at hP
    refine V_iload hX dX8_number_5 4 rfl ?_
    refine V_iload_n hX dX8_number_7 2 rfl ?_
    refine V_icmp_ge (tgt := 45) hX dX8_number_8 (by decide) (fun hc6 => ?_) (fun hc6 => ?_)
    · replace hP := ite_t hc6 hP
      refine V_sub (lv' := [(3, .int x3)]) [3] rfl ?_
      exact hk45 _ _  hP
    · replace hP := ite_f hc6 hP
      refine V_aload_n hX dX8_number_11 0 rfl ?_
      refine V_iload_n hX dX8_number_12 1 rfl ?_
      refine V_iload hX dX8_number_13 4 rfl ?_
      refine V_iadd hX dX8_number_15 ?_
      obtain ⟨x8, w7, hcw7, hP⟩ := bnd_e hP
      refine V_callVi (As := [.int (x1 + x4)]) (rest := []) hX mk_X8_23 nk_X8_digitAt (fun l => c_X8_digitAt l S  hcw7) tb_1 rfl ⟨rfl, rfl, Nat.le_of_ble_eq_true rfl, Nat.le_of_ble_eq_true rfl⟩ rfl rfl (Nat.le_of_ble_eq_true rfl) dX8_number_16 ?_
      refine V_if_eq (tgt := 45) hX dX8_number_19 (by decide) (fun hc9 => ?_) (fun hc9 => ?_)
      · replace hP := ite_t hc9 hP
        refine V_sub (lv' := [(3, .int x3)]) [3] rfl ?_
        exact hk45 _ _  hP
      · replace hP := ite_f hc9 hP
        refine V_iload_n hX dX8_number_22 3 rfl ?_
        refine V_bipush (v := 10) hX dX8_number_23 (by decide) ?_
        refine V_imul hX dX8_number_25 ?_
        refine V_aload_n hX dX8_number_26 0 rfl ?_
        refine V_iload_n hX dX8_number_27 1 rfl ?_
        refine V_iload hX dX8_number_28 4 rfl ?_
        refine V_iadd hX dX8_number_30 ?_
        obtain ⟨x11, w10, hcw10, hP⟩ := bnd_e hP
        refine V_callVi (As := [.int (x1 + x4)]) (rest := [.int (x3 * 10)]) hX mk_X8_19 nk_X8_at (fun l => c_X8_at l S  hcw10) tb_1 rfl ⟨rfl, rfl, Nat.le_of_ble_eq_true rfl, Nat.le_of_ble_eq_true rfl⟩ rfl rfl (Nat.le_of_ble_eq_true rfl) dX8_number_31 ?_
        refine V_iadd hX dX8_number_34 ?_
        refine V_bipush (v := 48) hX dX8_number_35 (by decide) ?_
        refine V_isub hX dX8_number_37 ?_
        refine V_topi (fun x12 ex12 => ?_)
        replace hP := lt_r ex12 hP
        refine V_istore_n (lv' := [(3, .int x12), (0, rf S 1), (1, .int x1), (2, .int x2), (4, .int x4)]) hX dX8_number_38 (by decide) rfl ?_
        obtain ⟨x13, ex13⟩ : ∃ y : Int32, y = x4 + 1 := ⟨_, rfl⟩
        replace hP := lt_r ex13 hP
        refine V_iinc (v := x13) (lv' := [(4, .int x13), (3, .int x12), (0, rf S 1), (1, .int x1), (2, .int x2)]) hX dX8_number_39 (j := 4) rfl (by decide) (by rw [ex13]; rfl) rfl ?_
        refine V_goto (tgt := 5) hX dX8_number_42 (by decide) ?_
        refine V_sub (lv' := [(0, rf S 1), (1, .int x1), (2, .int x2), (3, .int x12), (4, .int x13)]) [2, 3, 4, 1, 0] rfl ?_
        exact ih _ _ _  hP
def P_X8_number (F : Nat) (w : Wd) (x1 : Int32) (x2 : Int32) : Option (Int32 × Wd) := L_X8_number_5 F x1 x2 (fun w x5 => some (x5, w)) F w 0 0
set_option maxRecDepth 100000 in
set_option maxHeartbeats 4000000 in
theorem s_X8_number {X : Cx} {S : Sx} {r : Int32 × Wd} {F : Nat} {w : Wd} {x1 : Int32} {x2 : Int32}  (hX : Ok X S cX8_number RX8 5 rm_X8_number) (hR : HRt X S cX8_number .int r) (hP : P_X8_number F w x1 x2 = some r) : V X S w 0 [(0, rf S 1), (1, .int x1), (2, .int x2)] [] := by
  unfold P_X8_number at hP
  refine V_iconst (v := 0) hX dX8_number_0 (by decide) ?_
  refine V_istore_n (lv' := [(3, .int 0), (0, rf S 1), (1, .int x1), (2, .int x2)]) hX dX8_number_1 (by decide) rfl ?_
  refine V_iconst (v := 0) hX dX8_number_2 (by decide) ?_
  refine V_istore (lv' := [(4, .int 0), (3, .int 0), (0, rf S 1), (1, .int x1), (2, .int x2)]) hX dX8_number_3 (by decide) rfl ?_
  refine V_sub (lv' := [(0, rf S 1), (1, .int x1), (2, .int x2), (3, .int 0), (4, .int 0)]) [2, 3, 4, 1, 0] rfl ?_
  have k14 : ∀ (w : Wd) (x5 : Int32) , (some (x5, w)) = some r → V X S w 45 [(3, .int x5)] [] := by
    intro w x5  hP
    refine V_iload_n hX dX8_number_45 0 rfl ?_
    exact hR _ _ _ _ (Option.some.inj hP) rfl dX8_number_46
  exact sL_X8_number_5 hX hR  k14 F _ _ _  hP
theorem c_X8_number (l : Launch) (S : Sx) {r : Int32 × Wd} {F : Nat} {w : Wd} {x1 : Int32} {x2 : Int32}  (h : P_X8_number F w x1 x2 = some r) : Met l yX8_number (wsg yX8_number cX8_number 5 (some .int)) rm_X8_number (PC S w [rf S 1, .int x1, .int x2]) (QCi S r) 0 0 (Aw S) :=
  met_i (by decide) rfl (Nat.le_of_ble_eq_true rfl) ⟨rfl, rfl⟩ (fun X hX hR => s_X8_number  hX hR h)

-- MustNotStop$Acts.most(I)I
abbrev rm_X0_most : Room := { frames := 1, cells := 0, slots := 0, locals := 64 }
theorem nk_X0_most : MNk yX0_most RX0 1 := ⟨rfl, by decide, by decide, by decide +kernel⟩
def P_X0_most (F : Nat) (w : Wd) (x1 : Int32) : Option (Int32 × Wd) := (if x1 = 99 then some (2, w) else (if x1 = 108 then some (1, w) else (if x1 = 109 then some (2, w) else (if x1 = 116 then some (1, w) else some (3, w)))))
set_option maxRecDepth 100000 in
set_option maxHeartbeats 4000000 in
theorem s_X0_most {X : Cx} {S : Sx} {r : Int32 × Wd} {F : Nat} {w : Wd} {x1 : Int32}  (hX : Ok X S cX0_most RX0 1 rm_X0_most) (hR : HRt X S cX0_most .int r) (hP : P_X0_most F w x1 = some r) : V X S w 0 [(0, .int x1)] [] := by
  unfold P_X0_most at hP
  refine V_iload_n hX dX0_most_0 0 rfl ?_
  by_cases hc2 : x1 = 99
  · replace hP := ite_t hc2 hP
    refine V_lookup (tgt := 46) hX dX0_most_1 (by decide) (by rw [hc2] <;> rfl) (by decide) ?_
    refine V_iconst (v := 2) hX dX0_most_46 (by decide) ?_
    exact hR _ _ _ _ (Option.some.inj hP) rfl dX0_most_47
  replace hP := ite_f hc2 hP
  by_cases hc3 : x1 = 108
  · replace hP := ite_t hc3 hP
    refine V_lookup (tgt := 44) hX dX0_most_1 (by decide) (by rw [hc3] <;> rfl) (by decide) ?_
    refine V_iconst (v := 1) hX dX0_most_44 (by decide) ?_
    exact hR _ _ _ _ (Option.some.inj hP) rfl dX0_most_45
  replace hP := ite_f hc3 hP
  by_cases hc4 : x1 = 109
  · replace hP := ite_t hc4 hP
    refine V_lookup (tgt := 46) hX dX0_most_1 (by decide) (by rw [hc4] <;> rfl) (by decide) ?_
    refine V_iconst (v := 2) hX dX0_most_46 (by decide) ?_
    exact hR _ _ _ _ (Option.some.inj hP) rfl dX0_most_47
  replace hP := ite_f hc4 hP
  by_cases hc5 : x1 = 116
  · replace hP := ite_t hc5 hP
    refine V_lookup (tgt := 44) hX dX0_most_1 (by decide) (by rw [hc5] <;> rfl) (by decide) ?_
    refine V_iconst (v := 1) hX dX0_most_44 (by decide) ?_
    exact hR _ _ _ _ (Option.some.inj hP) rfl dX0_most_45
  replace hP := ite_f hc5 hP
  refine V_lookup (tgt := 48) hX dX0_most_1 (by decide) (lk_out (by
      intro q hq
      simp only [List.mem_cons, List.not_mem_nil, or_false] at hq
      rcases hq with rfl | rfl | rfl | rfl
      · exact fun e => hc2 (i32_ext (e.trans rfl))
      · exact fun e => hc3 (i32_ext (e.trans rfl))
      · exact fun e => hc4 (i32_ext (e.trans rfl))
      · exact fun e => hc5 (i32_ext (e.trans rfl))
      )) (by decide) ?_
  refine V_iconst (v := 3) hX dX0_most_48 (by decide) ?_
  exact hR _ _ _ _ (Option.some.inj hP) rfl dX0_most_49
theorem c_X0_most (l : Launch) (S : Sx) {r : Int32 × Wd} {F : Nat} {w : Wd} {x1 : Int32}  (h : P_X0_most F w x1 = some r) : Met l yX0_most (wsg yX0_most cX0_most 1 (some .int)) rm_X0_most (PC S w [.int x1]) (QCi S r) 0 0 (Aw S) :=
  met_i (by decide) rfl (Nat.le_of_ble_eq_true rfl) ⟨rfl, rfl⟩ (fun X hX hR => s_X0_most  hX hR h)

-- MustNotStop$Acts.least(I)I
abbrev rm_X0_least : Room := { frames := 1, cells := 0, slots := 0, locals := 64 }
theorem nk_X0_least : MNk yX0_least RX0 1 := ⟨rfl, by decide, by decide, by decide +kernel⟩
def P_X0_least (F : Nat) (w : Wd) (x1 : Int32) : Option (Int32 × Wd) := lt (if x1 = 99 then 2 else 1 : Int32) (fun x3 => some (x3, w))
set_option maxRecDepth 100000 in
set_option maxHeartbeats 4000000 in
theorem s_X0_least {X : Cx} {S : Sx} {r : Int32 × Wd} {F : Nat} {w : Wd} {x1 : Int32}  (hX : Ok X S cX0_least RX0 1 rm_X0_least) (hR : HRt X S cX0_least .int r) (hP : P_X0_least F w x1 = some r) : V X S w 0 [(0, .int x1)] [] := by
  unfold P_X0_least at hP
  refine V_iload_n hX dX0_least_0 0 rfl ?_
  refine V_bipush (v := 99) hX dX0_least_1 (by decide) ?_
  have k4 : V X S w 11 [(0, .int x1)] [.int (if x1 = 99 then 2 else 1)] := by
    refine V_topi (fun x3 ex3 => ?_)
    replace hP := lt_r ex3 hP
    exact hR _ _ _ _ (Option.some.inj hP) rfl dX0_least_11
  refine V_icmp_ne (tgt := 10) hX dX0_least_3 (by decide) (fun hc2 => ?_) (fun hc2 => ?_)
  · refine V_iconst (v := 1) hX dX0_least_10 (by decide) ?_
    refine V_selF (c := x1 = 99) (a := 2) hc2 ?_
    exact k4
  · refine V_iconst (v := 2) hX dX0_least_6 (by decide) ?_
    refine V_goto (tgt := 11) hX dX0_least_7 (by decide) ?_
    refine V_selT (c := x1 = 99) (b := 1) hc2 ?_
    exact k4
theorem c_X0_least (l : Launch) (S : Sx) {r : Int32 × Wd} {F : Nat} {w : Wd} {x1 : Int32}  (h : P_X0_least F w x1 = some r) : Met l yX0_least (wsg yX0_least cX0_least 1 (some .int)) rm_X0_least (PC S w [.int x1]) (QCi S r) 0 0 (Aw S) :=
  met_i (by decide) rfl (Nat.le_of_ble_eq_true rfl) ⟨rfl, rfl⟩ (fun X hX hR => s_X0_least  hX hR h)

-- MustNotStop$Acts.faultIn(LMustNotStop$Text;)I
abbrev rm_X0_faultIn : Room := { frames := 3, cells := 0, slots := 0, locals := 107 }
theorem nk_X0_faultIn : MNk yX0_faultIn RX0 1 := ⟨rfl, by decide, by decide, by decide +kernel⟩
def K_X0_faultIn_165 (F : Nat) (x2 : Int32) (k171 : Wd → Int32 → Int32 → Option (Int32 × Wd)) (rc : Wd → Int32 → Int32 → Int32 → Option (Int32 × Wd)) (w : Wd) (x32 : Int32) (x33 : Int32) (x34 : Int32) : Option (Int32 × Wd) := lt (x34 + 1 : Int32) (fun x35 => rc w x32 x33 x35)
set_option maxRecDepth 100000 in
set_option maxHeartbeats 4000000 in
theorem sK_X0_faultIn_165 {X : Cx} {S : Sx} {r : Int32 × Wd} {F : Nat} {x2 : Int32} {k171 : Wd → Int32 → Int32 → Option (Int32 × Wd)} {rc : Wd → Int32 → Int32 → Int32 → Option (Int32 × Wd)} {w : Wd} {x32 : Int32} {x33 : Int32} {x34 : Int32} (hX : Ok X S cX0_faultIn RX0 7 rm_X0_faultIn) (hR : HRt X S cX0_faultIn .int r)  (hk171 : ∀ (w : Wd) (x6 : Int32) (x7 : Int32) , k171 w x6 x7 = some r → V X S w 171 [(0, rf S 1), (1, .int x2), (2, .int x6), (3, .int x7)] []) (hrc : ∀ (w : Wd) (x3 : Int32) (x4 : Int32) (x5 : Int32) , rc w x3 x4 x5 = some r → V X S w 18 [(0, rf S 1), (1, .int x2), (2, .int x3), (3, .int x4), (4, .int x5)] [])  (hP : K_X0_faultIn_165 F x2 k171 rc w x32 x33 x34 = some r) : V X S w 165 [(0, rf S 1), (1, .int x2), (2, .int x32), (3, .int x33), (4, .int x34)] [] := by
  unfold K_X0_faultIn_165 at hP
  obtain ⟨x35, ex35⟩ : ∃ y : Int32, y = x34 + 1 := ⟨_, rfl⟩
  replace hP := lt_r ex35 hP
  refine V_iinc (v := x35) (lv' := [(4, .int x35), (0, rf S 1), (1, .int x2), (2, .int x32), (3, .int x33)]) hX dX0_faultIn_165 (j := 4) rfl (by decide) (by rw [ex35]; rfl) rfl ?_
  refine V_goto (tgt := 18) hX dX0_faultIn_168 (by decide) ?_
  refine V_sub (lv' := [(0, rf S 1), (1, .int x2), (2, .int x32), (3, .int x33), (4, .int x35)]) [1, 2, 3, 4, 0] rfl ?_
  exact hrc _ _ _ _  hP
def K_X0_faultIn_136 (F : Nat) (x2 : Int32) (k171 : Wd → Int32 → Int32 → Option (Int32 × Wd)) (rc : Wd → Int32 → Int32 → Int32 → Option (Int32 × Wd)) (w : Wd) (x22 : Int32) (x23 : Int32) (x24 : Int32) (x25 : Int32) (x26 : Int32) : Option (Int32 × Wd) := (if x26 = 0 then (if x25 = 59 then bnd (P_X0_least F w x23) (fun x30 w29 => (if x22 < x30 then some (x24, w29) else K_X0_faultIn_165 F x2 k171 rc w29 x22 59 x24)) else some (x24, w)) else some (x24, w))
set_option maxRecDepth 100000 in
set_option maxHeartbeats 4000000 in
theorem sK_X0_faultIn_136 {X : Cx} {S : Sx} {r : Int32 × Wd} {F : Nat} {x2 : Int32} {k171 : Wd → Int32 → Int32 → Option (Int32 × Wd)} {rc : Wd → Int32 → Int32 → Int32 → Option (Int32 × Wd)} {w : Wd} {x22 : Int32} {x23 : Int32} {x24 : Int32} {x25 : Int32} {x26 : Int32} (hX : Ok X S cX0_faultIn RX0 7 rm_X0_faultIn) (hR : HRt X S cX0_faultIn .int r)  (hk171 : ∀ (w : Wd) (x6 : Int32) (x7 : Int32) , k171 w x6 x7 = some r → V X S w 171 [(0, rf S 1), (1, .int x2), (2, .int x6), (3, .int x7)] []) (hrc : ∀ (w : Wd) (x3 : Int32) (x4 : Int32) (x5 : Int32) , rc w x3 x4 x5 = some r → V X S w 18 [(0, rf S 1), (1, .int x2), (2, .int x3), (3, .int x4), (4, .int x5)] [])  (hP : K_X0_faultIn_136 F x2 k171 rc w x22 x23 x24 x25 x26 = some r) : V X S w 136 [(0, rf S 1), (1, .int x2), (2, .int x22), (3, .int x23), (4, .int x24), (5, .int x25), (6, .int x26)] [] := by
  unfold K_X0_faultIn_136 at hP
  refine V_iload hX dX0_faultIn_136 6 rfl ?_
  refine V_if_ne (tgt := 162) hX dX0_faultIn_138 (by decide) (fun hc27 => ?_) (fun hc27 => ?_)
  · replace hP := ite_f hc27 hP
    refine V_iload hX dX0_faultIn_162 4 rfl ?_
    exact hR _ _ _ _ (Option.some.inj hP) rfl dX0_faultIn_164
  · replace hP := ite_t hc27 hP
    refine V_iload hX dX0_faultIn_141 5 rfl ?_
    refine V_bipush (v := 59) hX dX0_faultIn_143 (by decide) ?_
    refine V_icmp_ne (tgt := 162) hX dX0_faultIn_145 (by decide) (fun hc28 => ?_) (fun hc28 => ?_)
    · replace hP := ite_f hc28 hP
      refine V_iload hX dX0_faultIn_162 4 rfl ?_
      exact hR _ _ _ _ (Option.some.inj hP) rfl dX0_faultIn_164
    · replace hP := ite_t hc28 hP
      refine V_iload_n hX dX0_faultIn_148 2 rfl ?_
      refine V_iload_n hX dX0_faultIn_149 3 rfl ?_
      obtain ⟨x30, w29, hcw29, hP⟩ := bnd_e hP
      refine V_callSi (As := [.int x23]) (rest := [.int x22]) hX mk_X0_34 nk_X0_least (fun l => c_X0_least l S  hcw29) ⟨rfl, rfl, Nat.le_of_ble_eq_true rfl, Nat.le_of_ble_eq_true rfl⟩ rfl rfl (Nat.le_of_ble_eq_true rfl) dX0_faultIn_150 ?_
      refine V_icmp_lt (tgt := 162) hX dX0_faultIn_153 (by decide) (fun hc31 => ?_) (fun hc31 => ?_)
      · replace hP := ite_t hc31 hP
        refine V_iload hX dX0_faultIn_162 4 rfl ?_
        exact hR _ _ _ _ (Option.some.inj hP) rfl dX0_faultIn_164
      · replace hP := ite_f hc31 hP
        refine V_bipush (v := 59) hX dX0_faultIn_156 (by decide) ?_
        refine V_istore_n (lv' := [(3, .int 59), (0, rf S 1), (1, .int x2), (2, .int x22), (4, .int x24), (5, .int x25), (6, .int x26)]) hX dX0_faultIn_158 (by decide) rfl ?_
        refine V_goto (tgt := 165) hX dX0_faultIn_159 (by decide) ?_
        refine V_sub (lv' := [(0, rf S 1), (1, .int x2), (2, .int x22), (3, .int 59), (4, .int x24)]) [1, 2, 3, 0, 4] rfl ?_
        exact sK_X0_faultIn_165 hX hR  hk171 hrc  hP
def K_X0_faultIn_128 (F : Nat) (x2 : Int32) (k171 : Wd → Int32 → Int32 → Option (Int32 × Wd)) (rc : Wd → Int32 → Int32 → Int32 → Option (Int32 × Wd)) (w : Wd) (x37 : Int32) (x38 : Int32) : Option (Int32 × Wd) := K_X0_faultIn_165 F x2 k171 rc w 0 x38 x37
set_option maxRecDepth 100000 in
set_option maxHeartbeats 4000000 in
theorem sK_X0_faultIn_128 {X : Cx} {S : Sx} {r : Int32 × Wd} {F : Nat} {x2 : Int32} {k171 : Wd → Int32 → Int32 → Option (Int32 × Wd)} {rc : Wd → Int32 → Int32 → Int32 → Option (Int32 × Wd)} {w : Wd} {x37 : Int32} {x38 : Int32} (hX : Ok X S cX0_faultIn RX0 7 rm_X0_faultIn) (hR : HRt X S cX0_faultIn .int r)  (hk171 : ∀ (w : Wd) (x6 : Int32) (x7 : Int32) , k171 w x6 x7 = some r → V X S w 171 [(0, rf S 1), (1, .int x2), (2, .int x6), (3, .int x7)] []) (hrc : ∀ (w : Wd) (x3 : Int32) (x4 : Int32) (x5 : Int32) , rc w x3 x4 x5 = some r → V X S w 18 [(0, rf S 1), (1, .int x2), (2, .int x3), (3, .int x4), (4, .int x5)] [])  (hP : K_X0_faultIn_128 F x2 k171 rc w x37 x38 = some r) : V X S w 128 [(0, rf S 1), (1, .int x2), (4, .int x37), (5, .int x38)] [] := by
  unfold K_X0_faultIn_128 at hP
  refine V_iload hX dX0_faultIn_128 3 rfl ?_
  refine V_istore_n (lv' := [(3, .int x38), (0, rf S 1), (1, .int x2), (4, .int x37), (5, .int x38)]) hX dX0_faultIn_130 (by decide) rfl ?_
  refine V_iconst (v := 0) hX dX0_faultIn_131 (by decide) ?_
  refine V_istore_n (lv' := [(2, .int 0), (3, .int x38), (0, rf S 1), (1, .int x2), (4, .int x37), (5, .int x38)]) hX dX0_faultIn_132 (by decide) rfl ?_
  refine V_goto (tgt := 165) hX dX0_faultIn_133 (by decide) ?_
  refine V_sub (lv' := [(0, rf S 1), (1, .int x2), (2, .int 0), (3, .int x38), (4, .int x37)]) [2, 3, 0, 1, 4] rfl ?_
  exact sK_X0_faultIn_165 hX hR  hk171 hrc  hP
def K_X0_faultIn_95 (F : Nat) (x2 : Int32) (k171 : Wd → Int32 → Int32 → Option (Int32 × Wd)) (rc : Wd → Int32 → Int32 → Int32 → Option (Int32 × Wd)) (w : Wd) (x16 : Int32) (x17 : Int32) (x18 : Int32) (x19 : Int32) (x20 : Int32) : Option (Int32 × Wd) := (if x20 = 0 then K_X0_faultIn_136 F x2 k171 rc w x16 x17 x18 x19 x20 else (if x19 = 116 then K_X0_faultIn_128 F x2 k171 rc w x18 x19 else (if x19 = 108 then K_X0_faultIn_128 F x2 k171 rc w x18 x19 else (if x19 = 99 then K_X0_faultIn_128 F x2 k171 rc w x18 x19 else (if x19 = 109 then K_X0_faultIn_128 F x2 k171 rc w x18 x19 else K_X0_faultIn_136 F x2 k171 rc w x16 x17 x18 x19 x20)))))
set_option maxRecDepth 100000 in
set_option maxHeartbeats 4000000 in
theorem sK_X0_faultIn_95 {X : Cx} {S : Sx} {r : Int32 × Wd} {F : Nat} {x2 : Int32} {k171 : Wd → Int32 → Int32 → Option (Int32 × Wd)} {rc : Wd → Int32 → Int32 → Int32 → Option (Int32 × Wd)} {w : Wd} {x16 : Int32} {x17 : Int32} {x18 : Int32} {x19 : Int32} {x20 : Int32} (hX : Ok X S cX0_faultIn RX0 7 rm_X0_faultIn) (hR : HRt X S cX0_faultIn .int r)  (hk171 : ∀ (w : Wd) (x6 : Int32) (x7 : Int32) , k171 w x6 x7 = some r → V X S w 171 [(0, rf S 1), (1, .int x2), (2, .int x6), (3, .int x7)] []) (hrc : ∀ (w : Wd) (x3 : Int32) (x4 : Int32) (x5 : Int32) , rc w x3 x4 x5 = some r → V X S w 18 [(0, rf S 1), (1, .int x2), (2, .int x3), (3, .int x4), (4, .int x5)] [])  (hP : K_X0_faultIn_95 F x2 k171 rc w x16 x17 x18 x19 x20 = some r) : V X S w 95 [(0, rf S 1), (1, .int x2), (2, .int x16), (3, .int x17), (4, .int x18), (5, .int x19), (6, .int x20)] [] := by
  unfold K_X0_faultIn_95 at hP
  refine V_iload hX dX0_faultIn_95 6 rfl ?_
  refine V_if_eq (tgt := 136) hX dX0_faultIn_97 (by decide) (fun hc21 => ?_) (fun hc21 => ?_)
  · replace hP := ite_t hc21 hP
    exact sK_X0_faultIn_136 hX hR  hk171 hrc  hP
  · replace hP := ite_f hc21 hP
    refine V_iload hX dX0_faultIn_100 5 rfl ?_
    refine V_bipush (v := 116) hX dX0_faultIn_102 (by decide) ?_
    refine V_icmp_eq (tgt := 128) hX dX0_faultIn_104 (by decide) (fun hc36 => ?_) (fun hc36 => ?_)
    · replace hP := ite_t hc36 hP
      refine V_sub (lv' := [(0, rf S 1), (1, .int x2), (4, .int x18), (5, .int x19)]) [0, 1, 4, 5] rfl ?_
      exact sK_X0_faultIn_128 hX hR  hk171 hrc  hP
    · replace hP := ite_f hc36 hP
      refine V_iload hX dX0_faultIn_107 5 rfl ?_
      refine V_bipush (v := 108) hX dX0_faultIn_109 (by decide) ?_
      refine V_icmp_eq (tgt := 128) hX dX0_faultIn_111 (by decide) (fun hc39 => ?_) (fun hc39 => ?_)
      · replace hP := ite_t hc39 hP
        refine V_sub (lv' := [(0, rf S 1), (1, .int x2), (4, .int x18), (5, .int x19)]) [0, 1, 4, 5] rfl ?_
        exact sK_X0_faultIn_128 hX hR  hk171 hrc  hP
      · replace hP := ite_f hc39 hP
        refine V_iload hX dX0_faultIn_114 5 rfl ?_
        refine V_bipush (v := 99) hX dX0_faultIn_116 (by decide) ?_
        refine V_icmp_eq (tgt := 128) hX dX0_faultIn_118 (by decide) (fun hc40 => ?_) (fun hc40 => ?_)
        · replace hP := ite_t hc40 hP
          refine V_sub (lv' := [(0, rf S 1), (1, .int x2), (4, .int x18), (5, .int x19)]) [0, 1, 4, 5] rfl ?_
          exact sK_X0_faultIn_128 hX hR  hk171 hrc  hP
        · replace hP := ite_f hc40 hP
          refine V_iload hX dX0_faultIn_121 5 rfl ?_
          refine V_bipush (v := 109) hX dX0_faultIn_123 (by decide) ?_
          refine V_icmp_ne (tgt := 136) hX dX0_faultIn_125 (by decide) (fun hc41 => ?_) (fun hc41 => ?_)
          · replace hP := ite_f hc41 hP
            exact sK_X0_faultIn_136 hX hR  hk171 hrc  hP
          · replace hP := ite_t hc41 hP
            refine V_sub (lv' := [(0, rf S 1), (1, .int x2), (4, .int x18), (5, .int x19)]) [0, 1, 4, 5] rfl ?_
            exact sK_X0_faultIn_128 hX hR  hk171 hrc  hP
def K_X0_faultIn_67 (F : Nat) (x2 : Int32) (k171 : Wd → Int32 → Int32 → Option (Int32 × Wd)) (rc : Wd → Int32 → Int32 → Int32 → Option (Int32 × Wd)) (w : Wd) (x43 : Int32) (x44 : Int32) (x45 : Int32) (x46 : Int32) : Option (Int32 × Wd) := lt (if x46 = 0 then x44 else 48 : Int32) (fun x48 => lt (if x46 = 0 then x43 + 1 else 1 : Int32) (fun x50 => K_X0_faultIn_165 F x2 k171 rc w x50 x48 x45))
set_option maxRecDepth 100000 in
set_option maxHeartbeats 4000000 in
theorem sK_X0_faultIn_67 {X : Cx} {S : Sx} {r : Int32 × Wd} {F : Nat} {x2 : Int32} {k171 : Wd → Int32 → Int32 → Option (Int32 × Wd)} {rc : Wd → Int32 → Int32 → Int32 → Option (Int32 × Wd)} {w : Wd} {x43 : Int32} {x44 : Int32} {x45 : Int32} {x46 : Int32} (hX : Ok X S cX0_faultIn RX0 7 rm_X0_faultIn) (hR : HRt X S cX0_faultIn .int r)  (hk171 : ∀ (w : Wd) (x6 : Int32) (x7 : Int32) , k171 w x6 x7 = some r → V X S w 171 [(0, rf S 1), (1, .int x2), (2, .int x6), (3, .int x7)] []) (hrc : ∀ (w : Wd) (x3 : Int32) (x4 : Int32) (x5 : Int32) , rc w x3 x4 x5 = some r → V X S w 18 [(0, rf S 1), (1, .int x2), (2, .int x3), (3, .int x4), (4, .int x5)] [])  (hP : K_X0_faultIn_67 F x2 k171 rc w x43 x44 x45 x46 = some r) : V X S w 67 [(0, rf S 1), (1, .int x2), (2, .int x43), (3, .int x44), (4, .int x45), (6, .int x46)] [] := by
  unfold K_X0_faultIn_67 at hP
  refine V_iload hX dX0_faultIn_67 5 rfl ?_
  have k52 : V X S w 78 [(0, rf S 1), (1, .int x2), (2, .int x43), (3, .int x44), (4, .int x45), (6, .int x46)] [.int (if x46 = 0 then x44 else 48)] := by
    refine V_topi (fun x48 ex48 => ?_)
    replace hP := lt_r ex48 hP
    refine V_istore_n (lv' := [(3, .int x48), (0, rf S 1), (1, .int x2), (2, .int x43), (4, .int x45), (6, .int x46)]) hX dX0_faultIn_78 (by decide) rfl ?_
    refine V_iload hX dX0_faultIn_79 5 rfl ?_
    have k51 : V X S w 91 [(3, .int x48), (0, rf S 1), (1, .int x2), (2, .int x43), (4, .int x45), (6, .int x46)] [.int (if x46 = 0 then x43 + 1 else 1)] := by
      refine V_topi (fun x50 ex50 => ?_)
      replace hP := lt_r ex50 hP
      refine V_istore_n (lv' := [(2, .int x50), (3, .int x48), (0, rf S 1), (1, .int x2), (4, .int x45), (6, .int x46)]) hX dX0_faultIn_91 (by decide) rfl ?_
      refine V_goto (tgt := 165) hX dX0_faultIn_92 (by decide) ?_
      refine V_sub (lv' := [(0, rf S 1), (1, .int x2), (2, .int x50), (3, .int x48), (4, .int x45)]) [2, 3, 0, 1, 4] rfl ?_
      exact sK_X0_faultIn_165 hX hR  hk171 hrc  hP
    refine V_if_eq (tgt := 88) hX dX0_faultIn_81 (by decide) (fun hc49 => ?_) (fun hc49 => ?_)
    · refine V_iload_n hX dX0_faultIn_88 3 rfl ?_
      refine V_iconst (v := 1) hX dX0_faultIn_89 (by decide) ?_
      refine V_iadd hX dX0_faultIn_90 ?_
      refine V_selT (c := x46 = 0) (b := 1) hc49 ?_
      exact k51
    · refine V_iconst (v := 1) hX dX0_faultIn_84 (by decide) ?_
      refine V_goto (tgt := 91) hX dX0_faultIn_85 (by decide) ?_
      refine V_selF (c := x46 = 0) (a := x43 + 1) hc49 ?_
      exact k51
  refine V_if_eq (tgt := 77) hX dX0_faultIn_69 (by decide) (fun hc47 => ?_) (fun hc47 => ?_)
  · refine V_iload_n hX dX0_faultIn_77 3 rfl ?_
    refine V_selT (c := x46 = 0) (b := 48) hc47 ?_
    exact k52
  · refine V_bipush (v := 48) hX dX0_faultIn_72 (by decide) ?_
    refine V_goto (tgt := 78) hX dX0_faultIn_74 (by decide) ?_
    refine V_selF (c := x46 = 0) (a := x44) hc47 ?_
    exact k52
def L_X0_faultIn_18 (F : Nat) (x2 : Int32) (k171 : Wd → Int32 → Int32 → Option (Int32 × Wd)) : Nat → Wd → Int32 → Int32 → Int32 → Option (Int32 × Wd)
  | 0, _, _, _, _ => none
  | n + 1, w, x3, x4, x5 => (if x2 ≤ x5 then k171 w x3 x4 else bnd (P_X8_at F w x5) (fun x10 w9 => lt (if x4 = 59 then 1 else 0 : Int32) (fun x12 => bnd (P_X8_digitAt F w9 x5) (fun x14 w13 => (if x14 = 0 then K_X0_faultIn_95 F x2 k171 ((L_X0_faultIn_18 F x2 k171 n)) w13 x3 x4 x5 x10 x12 else (if x12 = 0 then bnd (P_X0_most F w13 x4) (fun x54 w53 => (if x54 ≤ x3 then K_X0_faultIn_95 F x2 k171 ((L_X0_faultIn_18 F x2 k171 n)) w53 x3 x4 x5 x10 x12 else K_X0_faultIn_67 F x2 k171 ((L_X0_faultIn_18 F x2 k171 n)) w53 x3 x4 x5 x12)) else K_X0_faultIn_67 F x2 k171 ((L_X0_faultIn_18 F x2 k171 n)) w13 x3 x4 x5 x12))))))
set_option maxRecDepth 100000 in
set_option maxHeartbeats 4000000 in
theorem sL_X0_faultIn_18 {X : Cx} {S : Sx} {r : Int32 × Wd} {F : Nat} {x2 : Int32} {k171 : Wd → Int32 → Int32 → Option (Int32 × Wd)} (hX : Ok X S cX0_faultIn RX0 7 rm_X0_faultIn) (hR : HRt X S cX0_faultIn .int r)  (hk171 : ∀ (w : Wd) (x6 : Int32) (x7 : Int32) , k171 w x6 x7 = some r → V X S w 171 [(0, rf S 1), (1, .int x2), (2, .int x6), (3, .int x7)] []) : ∀ (n : Nat) (w : Wd) (x3 : Int32) (x4 : Int32) (x5 : Int32) , L_X0_faultIn_18 F x2 k171 n w x3 x4 x5 = some r → V X S w 18 [(0, rf S 1), (1, .int x2), (2, .int x3), (3, .int x4), (4, .int x5)] [] := by
  intro n
  induction n with
  | zero =>
    intro w x3 x4 x5  hP
    exact nn hP
  | succ n ih =>
    intro w x3 x4 x5  hP
    rw [L_X0_faultIn_18] at hP
    refine V_iload hX dX0_faultIn_18 4 rfl ?_
    refine V_iload_n hX dX0_faultIn_20 1 rfl ?_
    refine V_icmp_ge (tgt := 171) hX dX0_faultIn_21 (by decide) (fun hc8 => ?_) (fun hc8 => ?_)
    · replace hP := ite_t hc8 hP
      refine V_sub (lv' := [(0, rf S 1), (1, .int x2), (2, .int x3), (3, .int x4)]) [0, 1, 2, 3] rfl ?_
      exact hk171 _ _ _  hP
    · replace hP := ite_f hc8 hP
      refine V_aload_n hX dX0_faultIn_24 0 rfl ?_
      refine V_iload hX dX0_faultIn_25 4 rfl ?_
      obtain ⟨x10, w9, hcw9, hP⟩ := bnd_e hP
      refine V_callVi (As := [.int x5]) (rest := []) hX mk_X0_21 nk_X8_at (fun l => c_X8_at l S  hcw9) tb_1 rfl ⟨rfl, rfl, Nat.le_of_ble_eq_true rfl, Nat.le_of_ble_eq_true rfl⟩ rfl rfl (Nat.le_of_ble_eq_true rfl) dX0_faultIn_27 ?_
      refine V_istore (lv' := [(5, .int x10), (0, rf S 1), (1, .int x2), (2, .int x3), (3, .int x4), (4, .int x5)]) hX dX0_faultIn_30 (by decide) rfl ?_
      refine V_iload_n hX dX0_faultIn_32 4 rfl ?_
      refine V_bipush (v := 59) hX dX0_faultIn_33 (by decide) ?_
      have k56 : V X S w9 43 [(5, .int x10), (0, rf S 1), (1, .int x2), (2, .int x3), (3, .int x4), (4, .int x5)] [.int (if x4 = 59 then 1 else 0)] := by
        refine V_topi (fun x12 ex12 => ?_)
        replace hP := lt_r ex12 hP
        refine V_istore (lv' := [(6, .int x12), (5, .int x10), (0, rf S 1), (1, .int x2), (2, .int x3), (3, .int x4), (4, .int x5)]) hX dX0_faultIn_43 (by decide) rfl ?_
        refine V_aload_n hX dX0_faultIn_45 2 rfl ?_
        refine V_iload hX dX0_faultIn_46 6 rfl ?_
        obtain ⟨x14, w13, hcw13, hP⟩ := bnd_e hP
        refine V_callVi (As := [.int x5]) (rest := []) hX mk_X0_25 nk_X8_digitAt (fun l => c_X8_digitAt l S  hcw13) tb_1 rfl ⟨rfl, rfl, Nat.le_of_ble_eq_true rfl, Nat.le_of_ble_eq_true rfl⟩ rfl rfl (Nat.le_of_ble_eq_true rfl) dX0_faultIn_48 ?_
        refine V_if_eq (tgt := 95) hX dX0_faultIn_51 (by decide) (fun hc15 => ?_) (fun hc15 => ?_)
        · replace hP := ite_t hc15 hP
          refine V_sub (lv' := [(0, rf S 1), (1, .int x2), (2, .int x3), (3, .int x4), (4, .int x5), (5, .int x10), (6, .int x12)]) [2, 3, 4, 5, 6, 1, 0] rfl ?_
          exact sK_X0_faultIn_95 hX hR  hk171 ih  hP
        · replace hP := ite_f hc15 hP
          refine V_iload hX dX0_faultIn_54 0 rfl ?_
          refine V_if_ne (tgt := 67) hX dX0_faultIn_56 (by decide) (fun hc42 => ?_) (fun hc42 => ?_)
          · replace hP := ite_f hc42 hP
            refine V_sub (lv' := [(0, rf S 1), (1, .int x2), (2, .int x3), (3, .int x4), (4, .int x5), (6, .int x12)]) [2, 3, 4, 5, 6, 0] rfl ?_
            exact sK_X0_faultIn_67 hX hR  hk171 ih  hP
          · replace hP := ite_t hc42 hP
            refine V_iload_n hX dX0_faultIn_59 4 rfl ?_
            refine V_iload_n hX dX0_faultIn_60 5 rfl ?_
            obtain ⟨x54, w53, hcw53, hP⟩ := bnd_e hP
            refine V_callSi (As := [.int x4]) (rest := [.int x3]) hX mk_X0_29 nk_X0_most (fun l => c_X0_most l S  hcw53) ⟨rfl, rfl, Nat.le_of_ble_eq_true rfl, Nat.le_of_ble_eq_true rfl⟩ rfl rfl (Nat.le_of_ble_eq_true rfl) dX0_faultIn_61 ?_
            refine V_icmp_ge (tgt := 95) hX dX0_faultIn_64 (by decide) (fun hc55 => ?_) (fun hc55 => ?_)
            · replace hP := ite_t hc55 hP
              refine V_sub (lv' := [(0, rf S 1), (1, .int x2), (2, .int x3), (3, .int x4), (4, .int x5), (5, .int x10), (6, .int x12)]) [2, 3, 4, 5, 6, 1, 0] rfl ?_
              exact sK_X0_faultIn_95 hX hR  hk171 ih  hP
            · replace hP := ite_f hc55 hP
              refine V_sub (lv' := [(0, rf S 1), (1, .int x2), (2, .int x3), (3, .int x4), (4, .int x5), (6, .int x12)]) [2, 3, 4, 5, 6, 0] rfl ?_
              exact sK_X0_faultIn_67 hX hR  hk171 ih  hP
      refine V_icmp_ne (tgt := 42) hX dX0_faultIn_35 (by decide) (fun hc11 => ?_) (fun hc11 => ?_)
      · refine V_iconst (v := 0) hX dX0_faultIn_42 (by decide) ?_
        refine V_selF (c := x4 = 59) (a := 1) hc11 ?_
        exact k56
      · refine V_iconst (v := 1) hX dX0_faultIn_38 (by decide) ?_
        refine V_goto (tgt := 43) hX dX0_faultIn_39 (by decide) ?_
        refine V_selT (c := x4 = 59) (b := 0) hc11 ?_
        exact k56
def K_X0_faultIn_202 (F : Nat)   (w : Wd) (x60 : Int32) (x61 : Int32) : Option (Int32 × Wd) := lt (if x60 = 0 then (-1) else if x61 = 0 then x60 else (-1) : Int32) (fun x64 => some (x64, w))
set_option maxRecDepth 100000 in
set_option maxHeartbeats 4000000 in
theorem sK_X0_faultIn_202 {X : Cx} {S : Sx} {r : Int32 × Wd} {F : Nat}   {w : Wd} {x60 : Int32} {x61 : Int32} (hX : Ok X S cX0_faultIn RX0 7 rm_X0_faultIn) (hR : HRt X S cX0_faultIn .int r)    (hP : K_X0_faultIn_202 F   w x60 x61 = some r) : V X S w 202 [(1, .int x60)] [.int x61] := by
  unfold K_X0_faultIn_202 at hP
  refine V_istore (lv' := [(4, .int x61), (1, .int x60)]) hX dX0_faultIn_202 (by decide) rfl ?_
  refine V_iload_n hX dX0_faultIn_204 1 rfl ?_
  have k65 : V X S w 218 [(4, .int x61), (1, .int x60)] [.int (if x60 = 0 then (-1) else if x61 = 0 then x60 else (-1))] := by
    refine V_topi (fun x64 ex64 => ?_)
    replace hP := lt_r ex64 hP
    exact hR _ _ _ _ (Option.some.inj hP) rfl dX0_faultIn_218
  refine V_if_eq (tgt := 213) hX dX0_faultIn_205 (by decide) (fun hc63 => ?_) (fun hc63 => ?_)
  · refine V_iconst (v := (-1)) hX dX0_faultIn_213 (by decide) ?_
    refine V_goto (tgt := 218) hX dX0_faultIn_214 (by decide) ?_
    refine V_selT (c := x60 = 0) (b := if x61 = 0 then x60 else (-1)) hc63 ?_
    exact k65
  · refine V_iload hX dX0_faultIn_208 0 rfl ?_
    refine V_if_eq (tgt := 217) hX dX0_faultIn_210 (by decide) (fun hc62 => ?_) (fun hc62 => ?_)
    · refine V_iload_n hX dX0_faultIn_217 1 rfl ?_
      refine V_selT (c := x61 = 0) (b := (-1)) hc62 ?_
      refine V_selF (c := x60 = 0) (a := (-1)) hc63 ?_
      exact k65
    · refine V_iconst (v := (-1)) hX dX0_faultIn_213 (by decide) ?_
      refine V_goto (tgt := 218) hX dX0_faultIn_214 (by decide) ?_
      refine V_selF (c := x61 = 0) (a := x60) hc62 ?_
      refine V_selF (c := x60 = 0) (a := (-1)) hc63 ?_
      exact k65
def K_X0_faultIn_201 (F : Nat)   (w : Wd) (x59 : Int32) : Option (Int32 × Wd) := K_X0_faultIn_202 F   w x59 0
set_option maxRecDepth 100000 in
set_option maxHeartbeats 4000000 in
theorem sK_X0_faultIn_201 {X : Cx} {S : Sx} {r : Int32 × Wd} {F : Nat}   {w : Wd} {x59 : Int32} (hX : Ok X S cX0_faultIn RX0 7 rm_X0_faultIn) (hR : HRt X S cX0_faultIn .int r)    (hP : K_X0_faultIn_201 F   w x59 = some r) : V X S w 201 [(1, .int x59)] [] := by
  unfold K_X0_faultIn_201 at hP
  refine V_iconst (v := 0) hX dX0_faultIn_201 (by decide) ?_
  exact sK_X0_faultIn_202 hX hR    hP
def P_X0_faultIn (F : Nat) (w : Wd)  : Option (Int32 × Wd) := lt (minI (gI w 1 1) 60 : Int32) (fun x1 => L_X0_faultIn_18 F x1 (fun w x6 x7 => (if (gI w 1 1) ≤ 60 then (if x7 = 59 then K_X0_faultIn_201 F   w x1 else bnd (P_X0_least F w x7) (fun x67 w66 => lt (if x6 < x67 then 0 else 1 : Int32) (fun x69 => lt (if x1 = 0 then (-1) else if x69 = 0 then x1 else (-1) : Int32) (fun x72 => some (x72, w66))))) else some (60, w))) F w 0 59 0)
set_option maxRecDepth 100000 in
set_option maxHeartbeats 4000000 in
theorem s_X0_faultIn {X : Cx} {S : Sx} {r : Int32 × Wd} {F : Nat} {w : Wd}   (hX : Ok X S cX0_faultIn RX0 7 rm_X0_faultIn) (hR : HRt X S cX0_faultIn .int r) (hP : P_X0_faultIn F w  = some r) : V X S w 0 [(0, rf S 1)] [] := by
  unfold P_X0_faultIn at hP
  refine V_aload_n hX dX0_faultIn_0 0 rfl ?_
  refine V_getI hX fk_X0_9 tb_1 (fun _ _ _ => rfl) dX0_faultIn_1 ?_
  refine V_bipush (v := 60) hX dX0_faultIn_4 (by decide) ?_
  refine V_min hX mk_X0_15 ⟨Nat.le_of_ble_eq_true rfl, Nat.le_of_ble_eq_true rfl⟩ dX0_faultIn_6 ?_
  refine V_topi (fun x1 ex1 => ?_)
  replace hP := lt_r ex1 hP
  refine V_istore_n (lv' := [(1, .int x1), (0, rf S 1)]) hX dX0_faultIn_9 (by decide) rfl ?_
  refine V_iconst (v := 0) hX dX0_faultIn_10 (by decide) ?_
  refine V_istore_n (lv' := [(2, .int 0), (1, .int x1), (0, rf S 1)]) hX dX0_faultIn_11 (by decide) rfl ?_
  refine V_bipush (v := 59) hX dX0_faultIn_12 (by decide) ?_
  refine V_istore_n (lv' := [(3, .int 59), (2, .int 0), (1, .int x1), (0, rf S 1)]) hX dX0_faultIn_14 (by decide) rfl ?_
  refine V_iconst (v := 0) hX dX0_faultIn_15 (by decide) ?_
  refine V_istore (lv' := [(4, .int 0), (3, .int 59), (2, .int 0), (1, .int x1), (0, rf S 1)]) hX dX0_faultIn_16 (by decide) rfl ?_
  refine V_sub (lv' := [(0, rf S 1), (1, .int x1), (2, .int 0), (3, .int 59), (4, .int 0)]) [4, 3, 2, 1, 0] rfl ?_
  have k75 : ∀ (w : Wd) (x6 : Int32) (x7 : Int32) , ((if (gI w 1 1) ≤ 60 then (if x7 = 59 then K_X0_faultIn_201 F   w x1 else bnd (P_X0_least F w x7) (fun x67 w66 => lt (if x6 < x67 then 0 else 1 : Int32) (fun x69 => lt (if x1 = 0 then (-1) else if x69 = 0 then x1 else (-1) : Int32) (fun x72 => some (x72, w66))))) else some (60, w))) = some r → V X S w 171 [(0, rf S 1), (1, .int x1), (2, .int x6), (3, .int x7)] [] := by
    intro w x6 x7  hP
    refine V_aload_n hX dX0_faultIn_171 0 rfl ?_
    refine V_getI hX fk_X0_9 tb_1 (fun _ _ _ => rfl) dX0_faultIn_172 ?_
    refine V_bipush (v := 60) hX dX0_faultIn_175 (by decide) ?_
    refine V_icmp_le (tgt := 183) hX dX0_faultIn_177 (by decide) (fun hc57 => ?_) (fun hc57 => ?_)
    · replace hP := ite_t hc57 hP
      refine V_iload_n hX dX0_faultIn_183 3 rfl ?_
      refine V_bipush (v := 59) hX dX0_faultIn_184 (by decide) ?_
      refine V_icmp_eq (tgt := 201) hX dX0_faultIn_186 (by decide) (fun hc58 => ?_) (fun hc58 => ?_)
      · replace hP := ite_t hc58 hP
        refine V_sub (lv' := [(1, .int x1)]) [1] rfl ?_
        exact sK_X0_faultIn_201 hX hR    hP
      · replace hP := ite_f hc58 hP
        refine V_iload_n hX dX0_faultIn_189 2 rfl ?_
        refine V_iload_n hX dX0_faultIn_190 3 rfl ?_
        obtain ⟨x67, w66, hcw66, hP⟩ := bnd_e hP
        refine V_callSi (As := [.int x7]) (rest := [.int x6]) hX mk_X0_34 nk_X0_least (fun l => c_X0_least l S  hcw66) ⟨rfl, rfl, Nat.le_of_ble_eq_true rfl, Nat.le_of_ble_eq_true rfl⟩ rfl rfl (Nat.le_of_ble_eq_true rfl) dX0_faultIn_191 ?_
        have k74 : V X S w66 202 [(0, rf S 1), (1, .int x1), (2, .int x6), (3, .int x7)] [.int (if x6 < x67 then 0 else 1)] := by
          refine V_topi (fun x69 ex69 => ?_)
          replace hP := lt_r ex69 hP
          refine V_istore (lv' := [(4, .int x69), (0, rf S 1), (1, .int x1), (2, .int x6), (3, .int x7)]) hX dX0_faultIn_202 (by decide) rfl ?_
          refine V_iload_n hX dX0_faultIn_204 2 rfl ?_
          have k73 : V X S w66 218 [(4, .int x69), (0, rf S 1), (1, .int x1), (2, .int x6), (3, .int x7)] [.int (if x1 = 0 then (-1) else if x69 = 0 then x1 else (-1))] := by
            refine V_topi (fun x72 ex72 => ?_)
            replace hP := lt_r ex72 hP
            exact hR _ _ _ _ (Option.some.inj hP) rfl dX0_faultIn_218
          refine V_if_eq (tgt := 213) hX dX0_faultIn_205 (by decide) (fun hc71 => ?_) (fun hc71 => ?_)
          · refine V_iconst (v := (-1)) hX dX0_faultIn_213 (by decide) ?_
            refine V_goto (tgt := 218) hX dX0_faultIn_214 (by decide) ?_
            refine V_selT (c := x1 = 0) (b := if x69 = 0 then x1 else (-1)) hc71 ?_
            exact k73
          · refine V_iload hX dX0_faultIn_208 0 rfl ?_
            refine V_if_eq (tgt := 217) hX dX0_faultIn_210 (by decide) (fun hc70 => ?_) (fun hc70 => ?_)
            · refine V_iload_n hX dX0_faultIn_217 2 rfl ?_
              refine V_selT (c := x69 = 0) (b := (-1)) hc70 ?_
              refine V_selF (c := x1 = 0) (a := (-1)) hc71 ?_
              exact k73
            · refine V_iconst (v := (-1)) hX dX0_faultIn_213 (by decide) ?_
              refine V_goto (tgt := 218) hX dX0_faultIn_214 (by decide) ?_
              refine V_selF (c := x69 = 0) (a := x1) hc70 ?_
              refine V_selF (c := x1 = 0) (a := (-1)) hc71 ?_
              exact k73
        refine V_icmp_lt (tgt := 201) hX dX0_faultIn_194 (by decide) (fun hc68 => ?_) (fun hc68 => ?_)
        · refine V_iconst (v := 0) hX dX0_faultIn_201 (by decide) ?_
          refine V_selT (c := x6 < x67) (b := 1) hc68 ?_
          exact k74
        · refine V_iconst (v := 1) hX dX0_faultIn_197 (by decide) ?_
          refine V_goto (tgt := 202) hX dX0_faultIn_198 (by decide) ?_
          refine V_selF (c := x6 < x67) (a := 0) hc68 ?_
          exact k74
    · replace hP := ite_f hc57 hP
      refine V_bipush (v := 60) hX dX0_faultIn_180 (by decide) ?_
      exact hR _ _ _ _ (Option.some.inj hP) rfl dX0_faultIn_182
  exact sL_X0_faultIn_18 hX hR  k75 F _ _ _ _  hP
theorem c_X0_faultIn (l : Launch) (S : Sx) {r : Int32 × Wd} {F : Nat} {w : Wd}   (h : P_X0_faultIn F w  = some r) : Met l yX0_faultIn (wsg yX0_faultIn cX0_faultIn 7 (some .int)) rm_X0_faultIn (PC S w [rf S 1]) (QCi S r) 0 0 (Aw S) :=
  met_i (by decide) rfl (Nat.le_of_ble_eq_true rfl) ⟨rfl, rfl⟩ (fun X hX hR => s_X0_faultIn  hX hR h)

-- java/lang/Integer.bitCount(I)I
abbrev rm_J6_bitCount_0f7a4 : Room := { frames := 1, cells := 0, slots := 0, locals := 64 }
theorem nk_J6_bitCount_0f7a4 : MNk yJ6_bitCount_0f7a4 RJ6 1 := ⟨rfl, by decide, by decide, by decide +kernel⟩
def P_J6_bitCount_0f7a4 (F : Nat) (w : Wd) (x1 : Int32) : Option (Int32 × Wd) := lt (x1 - ((iushrI x1 1) &&& 1431655765) : Int32) (fun x2 => lt ((x2 &&& 858993459) + ((iushrI x2 2) &&& 858993459) : Int32) (fun x3 => lt ((x3 + (iushrI x3 4)) &&& 252645135 : Int32) (fun x4 => lt (x4 + (iushrI x4 8) : Int32) (fun x5 => lt (x5 + (iushrI x5 16) : Int32) (fun x6 => some (x6 &&& 63, w))))))
set_option maxRecDepth 100000 in
set_option maxHeartbeats 4000000 in
theorem s_J6_bitCount_0f7a4 {X : Cx} {S : Sx} {r : Int32 × Wd} {F : Nat} {w : Wd} {x1 : Int32}  (hX : Ok X S cJ6_bitCount_0f7a4 RJ6 1 rm_J6_bitCount_0f7a4) (hR : HRt X S cJ6_bitCount_0f7a4 .int r) (hP : P_J6_bitCount_0f7a4 F w x1 = some r) : V X S w 0 [(0, .int x1)] [] := by
  unfold P_J6_bitCount_0f7a4 at hP
  refine V_iload_n hX dJ6_bitCount_0f7a4_0 0 rfl ?_
  refine V_iload_n hX dJ6_bitCount_0f7a4_1 0 rfl ?_
  refine V_iconst (v := 1) hX dJ6_bitCount_0f7a4_2 (by decide) ?_
  refine V_iushr hX dJ6_bitCount_0f7a4_3 ?_
  refine V_ldcw (v := 1431655765) hX dJ6_bitCount_0f7a4_4 cn_J6_265 ?_
  refine V_iand hX dJ6_bitCount_0f7a4_7 ?_
  refine V_isub hX dJ6_bitCount_0f7a4_8 ?_
  refine V_topi (fun x2 ex2 => ?_)
  replace hP := lt_r ex2 hP
  refine V_istore_n (lv' := [(0, .int x2)]) hX dJ6_bitCount_0f7a4_9 (by decide) rfl ?_
  refine V_iload_n hX dJ6_bitCount_0f7a4_10 0 rfl ?_
  refine V_ldcw (v := 858993459) hX dJ6_bitCount_0f7a4_11 cn_J6_266 ?_
  refine V_iand hX dJ6_bitCount_0f7a4_14 ?_
  refine V_iload_n hX dJ6_bitCount_0f7a4_15 0 rfl ?_
  refine V_iconst (v := 2) hX dJ6_bitCount_0f7a4_16 (by decide) ?_
  refine V_iushr hX dJ6_bitCount_0f7a4_17 ?_
  refine V_ldcw (v := 858993459) hX dJ6_bitCount_0f7a4_18 cn_J6_266 ?_
  refine V_iand hX dJ6_bitCount_0f7a4_21 ?_
  refine V_iadd hX dJ6_bitCount_0f7a4_22 ?_
  refine V_topi (fun x3 ex3 => ?_)
  replace hP := lt_r ex3 hP
  refine V_istore_n (lv' := [(0, .int x3)]) hX dJ6_bitCount_0f7a4_23 (by decide) rfl ?_
  refine V_iload_n hX dJ6_bitCount_0f7a4_24 0 rfl ?_
  refine V_iload_n hX dJ6_bitCount_0f7a4_25 0 rfl ?_
  refine V_iconst (v := 4) hX dJ6_bitCount_0f7a4_26 (by decide) ?_
  refine V_iushr hX dJ6_bitCount_0f7a4_27 ?_
  refine V_iadd hX dJ6_bitCount_0f7a4_28 ?_
  refine V_ldcw (v := 252645135) hX dJ6_bitCount_0f7a4_29 cn_J6_267 ?_
  refine V_iand hX dJ6_bitCount_0f7a4_32 ?_
  refine V_topi (fun x4 ex4 => ?_)
  replace hP := lt_r ex4 hP
  refine V_istore_n (lv' := [(0, .int x4)]) hX dJ6_bitCount_0f7a4_33 (by decide) rfl ?_
  refine V_iload_n hX dJ6_bitCount_0f7a4_34 0 rfl ?_
  refine V_iload_n hX dJ6_bitCount_0f7a4_35 0 rfl ?_
  refine V_bipush (v := 8) hX dJ6_bitCount_0f7a4_36 (by decide) ?_
  refine V_iushr hX dJ6_bitCount_0f7a4_38 ?_
  refine V_iadd hX dJ6_bitCount_0f7a4_39 ?_
  refine V_topi (fun x5 ex5 => ?_)
  replace hP := lt_r ex5 hP
  refine V_istore_n (lv' := [(0, .int x5)]) hX dJ6_bitCount_0f7a4_40 (by decide) rfl ?_
  refine V_iload_n hX dJ6_bitCount_0f7a4_41 0 rfl ?_
  refine V_iload_n hX dJ6_bitCount_0f7a4_42 0 rfl ?_
  refine V_bipush (v := 16) hX dJ6_bitCount_0f7a4_43 (by decide) ?_
  refine V_iushr hX dJ6_bitCount_0f7a4_45 ?_
  refine V_iadd hX dJ6_bitCount_0f7a4_46 ?_
  refine V_topi (fun x6 ex6 => ?_)
  replace hP := lt_r ex6 hP
  refine V_istore_n (lv' := [(0, .int x6)]) hX dJ6_bitCount_0f7a4_47 (by decide) rfl ?_
  refine V_iload_n hX dJ6_bitCount_0f7a4_48 0 rfl ?_
  refine V_bipush (v := 63) hX dJ6_bitCount_0f7a4_49 (by decide) ?_
  refine V_iand hX dJ6_bitCount_0f7a4_51 ?_
  exact hR _ _ _ _ (Option.some.inj hP) rfl dJ6_bitCount_0f7a4_52
theorem c_J6_bitCount_0f7a4 (l : Launch) (S : Sx) {r : Int32 × Wd} {F : Nat} {w : Wd} {x1 : Int32}  (h : P_J6_bitCount_0f7a4 F w x1 = some r) : Met l yJ6_bitCount_0f7a4 (wsg yJ6_bitCount_0f7a4 cJ6_bitCount_0f7a4 1 (some .int)) rm_J6_bitCount_0f7a4 (PC S w [.int x1]) (QCi S r) 0 0 (Aw S) :=
  met_i (by decide) rfl (Nat.le_of_ble_eq_true rfl) ⟨rfl, rfl⟩ (fun X hX hR => s_J6_bitCount_0f7a4  hX hR h)
