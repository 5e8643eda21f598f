-- MustNotStop.crowd(I)I
abbrev rm_X10_crowd : Room := { frames := 6, cells := 0, slots := 0, locals := 186 }
theorem nk_X10_crowd : MNk yX10_crowd RX10 1 := ⟨rfl, by decide, by decide, by decide +kernel⟩
def K_X10_crowd_67 (F : Nat) (x1 : Int32) (k73 : Wd → Int32 → Option (Int32 × Wd)) (rc : Wd → Int32 → Int32 → Option (Int32 × Wd)) (w : Wd) (x12 : Int32) (x13 : Int32) : Option (Int32 × Wd) := lt (x13 + 1 : Int32) (fun x14 => rc w x12 x14)
set_option maxRecDepth 100000 in
set_option maxHeartbeats 4000000 in
theorem sK_X10_crowd_67 {X : Cx} {S : Sx} {r : Int32 × Wd} {F : Nat} {x1 : Int32} {k73 : Wd → Int32 → Option (Int32 × Wd)} {rc : Wd → Int32 → Int32 → Option (Int32 × Wd)} {w : Wd} {x12 : Int32} {x13 : Int32} (hX : Ok X S cX10_crowd RX10 5 rm_X10_crowd) (hR : HRt X S cX10_crowd .int r)  (hk73 : ∀ (w : Wd) (x7 : Int32) , k73 w x7 = some r → V X S w 73 [(0, rf S 0), (2, .int x7)] []) (hrc : ∀ (w : Wd) (x5 : Int32) (x6 : Int32) , rc w x5 x6 = some r → V X S w 28 [(0, rf S 0), (1, .int x1), (2, .int x5), (3, .int x6)] [])  (hP : K_X10_crowd_67 F x1 k73 rc w x12 x13 = some r) : V X S w 67 [(0, rf S 0), (1, .int x1), (2, .int x12), (3, .int x13)] [] := by
  unfold K_X10_crowd_67 at hP
  obtain ⟨x14, ex14⟩ : ∃ y : Int32, y = x13 + 1 := ⟨_, rfl⟩
  replace hP := lt_r ex14 hP
  refine V_iinc (v := x14) (lv' := [(3, .int x14), (0, rf S 0), (1, .int x1), (2, .int x12)]) hX dX10_crowd_67 (j := 3) rfl (by decide) (by rw [ex14]; rfl) rfl ?_
  refine V_goto (tgt := 28) hX dX10_crowd_70 (by decide) ?_
  refine V_sub (lv' := [(0, rf S 0), (1, .int x1), (2, .int x12), (3, .int x14)]) [1, 2, 3, 0] rfl ?_
  exact hrc _ _ _  hP
def L_X10_crowd_28 (F : Nat) (x1 : Int32) (k73 : Wd → Int32 → Option (Int32 × Wd)) : Nat → Wd → Int32 → Int32 → Option (Int32 × Wd)
  | 0, _, _, _ => none
  | n + 1, w, x5, x6 => (if x1 < x6 then k73 w x5 else lt (gI w 25 8 : Int32) (fun x9 => bnv (P_X9_minute F w 5 25) (fun w10 => (if (gI w10 25 8) = x9 then K_X10_crowd_67 F x1 k73 ((L_X10_crowd_28 F x1 k73 n)) w10 x5 x6 else K_X10_crowd_67 F x1 k73 ((L_X10_crowd_28 F x1 k73 n)) w10 x6 x6))))
set_option maxRecDepth 100000 in
set_option maxHeartbeats 4000000 in
theorem sL_X10_crowd_28 {X : Cx} {S : Sx} {r : Int32 × Wd} {F : Nat} {x1 : Int32} {k73 : Wd → Int32 → Option (Int32 × Wd)} (hX : Ok X S cX10_crowd RX10 5 rm_X10_crowd) (hR : HRt X S cX10_crowd .int r)  (hk73 : ∀ (w : Wd) (x7 : Int32) , k73 w x7 = some r → V X S w 73 [(0, rf S 0), (2, .int x7)] []) : ∀ (n : Nat) (w : Wd) (x5 : Int32) (x6 : Int32) , L_X10_crowd_28 F x1 k73 n w x5 x6 = some r → V X S w 28 [(0, rf S 0), (1, .int x1), (2, .int x5), (3, .int x6)] [] := by
  intro n
  induction n with
  | zero =>
    intro w x5 x6  hP
    exact nn hP
  | succ n ih =>
    intro w x5 x6  hP
    rw [L_X10_crowd_28] at hP
    refine V_iload_n hX dX10_crowd_28 3 rfl ?_
    refine V_iload_n hX dX10_crowd_29 1 rfl ?_
    refine V_icmp_gt (tgt := 73) hX dX10_crowd_30 (by decide) (fun hc8 => ?_) (fun hc8 => ?_)
    · replace hP := ite_t hc8 hP
      refine V_sub (lv' := [(0, rf S 0), (2, .int x5)]) [0, 2] rfl ?_
      exact hk73 _ _  hP
    · replace hP := ite_f hc8 hP
      refine V_aload_n hX dX10_crowd_33 0 rfl ?_
      refine V_getF (j := 25) hX fk_X10_62 tb_0 (fun _ _ _ => rfl) dX10_crowd_34 ?_
      refine V_getI hX fk_X10_145 tb_25 (fun _ _ _ => rfl) dX10_crowd_37 ?_
      refine V_topi (fun x9 ex9 => ?_)
      replace hP := lt_r ex9 hP
      refine V_istore (lv' := [(4, .int x9), (0, rf S 0), (1, .int x1), (2, .int x5), (3, .int x6)]) hX dX10_crowd_40 (by decide) rfl ?_
      refine V_aload_n hX dX10_crowd_42 1 rfl ?_
      refine V_getF (j := 5) hX fk_X10_34 tb_0 (fun _ _ _ => rfl) dX10_crowd_43 ?_
      refine V_aload_n hX dX10_crowd_46 1 rfl ?_
      refine V_getF (j := 25) hX fk_X10_62 tb_0 (fun _ _ _ => rfl) dX10_crowd_47 ?_
      obtain ⟨w10, hcw10, hP⟩ := bnv_e hP
      refine V_callVv (As := [rf S 25]) (rest := []) hX mk_X10_239 nk_X9_minute (fun l => c_X9_minute l S (by decide) (by decide) hcw10) tb_5 rfl ⟨rfl, rfl, Nat.le_of_ble_eq_true rfl, Nat.le_of_ble_eq_true rfl⟩ rfl rfl (Nat.le_of_ble_eq_true rfl) dX10_crowd_50 ?_
      refine V_aload_n hX dX10_crowd_53 1 rfl ?_
      refine V_getF (j := 25) hX fk_X10_62 tb_0 (fun _ _ _ => rfl) dX10_crowd_54 ?_
      refine V_getI hX fk_X10_145 tb_25 (fun _ _ _ => rfl) dX10_crowd_57 ?_
      refine V_iload hX dX10_crowd_60 0 rfl ?_
      refine V_icmp_eq (tgt := 67) hX dX10_crowd_62 (by decide) (fun hc11 => ?_) (fun hc11 => ?_)
      · replace hP := ite_t hc11 hP
        refine V_sub (lv' := [(0, rf S 0), (1, .int x1), (2, .int x5), (3, .int x6)]) [1, 2, 3, 4] rfl ?_
        exact sK_X10_crowd_67 hX hR  hk73 ih  hP
      · replace hP := ite_f hc11 hP
        refine V_iload_n hX dX10_crowd_65 4 rfl ?_
        refine V_istore_n (lv' := [(2, .int x6), (4, .int x9), (0, rf S 0), (1, .int x1), (3, .int x6)]) hX dX10_crowd_66 (by decide) rfl ?_
        refine V_sub (lv' := [(0, rf S 0), (1, .int x1), (2, .int x6), (3, .int x6)]) [2, 3, 0, 4] rfl ?_
        exact sK_X10_crowd_67 hX hR  hk73 ih  hP
def P_X10_crowd (F : Nat) (w : Wd) (x1 : Int32) : Option (Int32 × Wd) := (if x1 < 0 then some ((-1), w) else (if x1 ≤ 999 then bnv (P_X1_copy F w 25 23) (fun w4 => L_X10_crowd_28 F x1 (fun w x7 => bnd (P_J6_bitCount_0f7a4 F w (gI w 25 8)) (fun x16 w15 => bnv (P_X10_tell_ F w15 (Int32.toInt64 x7) (Int32.toInt64 x16)) (fun w17 => some (gI w17 25 8, w17)))) F w4 0 1) else some ((-1), w)))
set_option maxRecDepth 100000 in
set_option maxHeartbeats 4000000 in
theorem s_X10_crowd {X : Cx} {S : Sx} {r : Int32 × Wd} {F : Nat} {w : Wd} {x1 : Int32}  (hX : Ok X S cX10_crowd RX10 5 rm_X10_crowd) (hR : HRt X S cX10_crowd .int r) (hP : P_X10_crowd F w x1 = some r) : V X S w 0 [(0, rf S 0), (1, .int x1)] [] := by
  unfold P_X10_crowd at hP
  refine V_iload_n hX dX10_crowd_0 1 rfl ?_
  refine V_if_lt (tgt := 11) hX dX10_crowd_1 (by decide) (fun hc2 => ?_) (fun hc2 => ?_)
  · replace hP := ite_t hc2 hP
    refine V_iconst (v := (-1)) hX dX10_crowd_11 (by decide) ?_
    exact hR _ _ _ _ (Option.some.inj hP) rfl dX10_crowd_12
  · replace hP := ite_f hc2 hP
    refine V_iload_n hX dX10_crowd_4 1 rfl ?_
    refine V_sipush (v := 999) hX dX10_crowd_5 (by decide) ?_
    refine V_icmp_le (tgt := 13) hX dX10_crowd_8 (by decide) (fun hc3 => ?_) (fun hc3 => ?_)
    · replace hP := ite_t hc3 hP
      refine V_aload_n hX dX10_crowd_13 0 rfl ?_
      refine V_getF (j := 25) hX fk_X10_62 tb_0 (fun _ _ _ => rfl) dX10_crowd_14 ?_
      refine V_aload_n hX dX10_crowd_17 0 rfl ?_
      refine V_getF (j := 23) hX fk_X10_58 tb_0 (fun _ _ _ => rfl) dX10_crowd_18 ?_
      obtain ⟨w4, hcw4, hP⟩ := bnv_e hP
      refine V_callVv (As := [rf S 23]) (rest := []) hX mk_X10_180 nk_X1_copy (fun l => c_X1_copy l S (by decide) (by decide) hcw4) tb_25 rfl ⟨rfl, rfl, Nat.le_of_ble_eq_true rfl, Nat.le_of_ble_eq_true rfl⟩ rfl rfl (Nat.le_of_ble_eq_true rfl) dX10_crowd_21 ?_
      refine V_iconst (v := 0) hX dX10_crowd_24 (by decide) ?_
      refine V_istore_n (lv' := [(2, .int 0), (0, rf S 0), (1, .int x1)]) hX dX10_crowd_25 (by decide) rfl ?_
      refine V_iconst (v := 1) hX dX10_crowd_26 (by decide) ?_
      refine V_istore_n (lv' := [(3, .int 1), (2, .int 0), (0, rf S 0), (1, .int x1)]) hX dX10_crowd_27 (by decide) rfl ?_
      refine V_sub (lv' := [(0, rf S 0), (1, .int x1), (2, .int 0), (3, .int 1)]) [2, 3, 1, 0] rfl ?_
      have k18 : ∀ (w : Wd) (x7 : Int32) , (bnd (P_J6_bitCount_0f7a4 F w (gI w 25 8)) (fun x16 w15 => bnv (P_X10_tell_ F w15 (Int32.toInt64 x7) (Int32.toInt64 x16)) (fun w17 => some (gI w17 25 8, w17)))) = some r → V X S w 73 [(0, rf S 0), (2, .int x7)] [] := by
        intro w x7  hP
        refine V_aload_n hX dX10_crowd_73 0 rfl ?_
        refine V_iload_n hX dX10_crowd_74 1 rfl ?_
        refine V_i2l hX dX10_crowd_75 ?_
        refine V_aload_n hX dX10_crowd_76 0 rfl ?_
        refine V_getF (j := 25) hX fk_X10_62 tb_0 (fun _ _ _ => rfl) dX10_crowd_77 ?_
        refine V_getI hX fk_X10_145 tb_25 (fun _ _ _ => rfl) dX10_crowd_80 ?_
        obtain ⟨x16, w15, hcw15, hP⟩ := bnd_e hP
        refine V_callSi (As := [.int (gI w 25 8)]) (rest := [.long (Int32.toInt64 x7), rf S 0]) hX mk_X10_228 nk_J6_bitCount_0f7a4 (fun l => c_J6_bitCount_0f7a4 l S  hcw15) ⟨rfl, rfl, Nat.le_of_ble_eq_true rfl, Nat.le_of_ble_eq_true rfl⟩ rfl rfl (Nat.le_of_ble_eq_true rfl) dX10_crowd_83 ?_
        refine V_i2l hX dX10_crowd_86 ?_
        obtain ⟨w17, hcw17, hP⟩ := bnv_e hP
        refine V_callVv (As := [.long (Int32.toInt64 x7), .long (Int32.toInt64 x16)]) (rest := []) hX mk_X10_202 nk_X10_tell_ (fun l => c_X10_tell_ l S  hcw17) tb_0 rfl ⟨rfl, rfl, Nat.le_of_ble_eq_true rfl, Nat.le_of_ble_eq_true rfl⟩ rfl rfl (Nat.le_of_ble_eq_true rfl) dX10_crowd_87 ?_
        refine V_aload_n hX dX10_crowd_90 0 rfl ?_
        refine V_getF (j := 25) hX fk_X10_62 tb_0 (fun _ _ _ => rfl) dX10_crowd_91 ?_
        refine V_getI hX fk_X10_145 tb_25 (fun _ _ _ => rfl) dX10_crowd_94 ?_
        exact hR _ _ _ _ (Option.some.inj hP) rfl dX10_crowd_97
      exact sL_X10_crowd_28 hX hR  k18 F _ _ _  hP
    · replace hP := ite_f hc3 hP
      refine V_iconst (v := (-1)) hX dX10_crowd_11 (by decide) ?_
      exact hR _ _ _ _ (Option.some.inj hP) rfl dX10_crowd_12
theorem c_X10_crowd (l : Launch) (S : Sx) {r : Int32 × Wd} {F : Nat} {w : Wd} {x1 : Int32}  (h : P_X10_crowd F w x1 = some r) : Met l yX10_crowd (wsg yX10_crowd cX10_crowd 5 (some .int)) rm_X10_crowd (PC S w [rf S 0, .int x1]) (QCi S r) 0 0 (Aw S) :=
  met_i (by decide) rfl (Nat.le_of_ble_eq_true rfl) ⟨rfl, rfl⟩ (fun X hX hR => s_X10_crowd  hX hR h)

-- MustNotStop.swap()I
abbrev rm_X10_swap : Room := { frames := 7, cells := 0, slots := 0, locals := 210 }
theorem nk_X10_swap : MNk yX10_swap RX10 0 := ⟨rfl, by decide, by decide, by decide +kernel⟩
def K_X10_swap_124 (F : Nat) (x9 : Int32) (k130 : Wd → Int32 → Int32 → Int32 → Option (Int32 × Wd)) (rc : Wd → Int32 → Int32 → Int32 → Int32 → Option (Int32 × Wd)) (w : Wd) (x37 : Int32) (x38 : Int32) (x39 : Int32) (x40 : Int32) : Option (Int32 × Wd) := lt (x40 + 1 : Int32) (fun x41 => rc w x37 x38 x39 x41)
set_option maxRecDepth 100000 in
set_option maxHeartbeats 4000000 in
theorem sK_X10_swap_124 {X : Cx} {S : Sx} {r : Int32 × Wd} {F : Nat} {x9 : Int32} {k130 : Wd → Int32 → Int32 → Int32 → Option (Int32 × Wd)} {rc : Wd → Int32 → Int32 → Int32 → Int32 → Option (Int32 × Wd)} {w : Wd} {x37 : Int32} {x38 : Int32} {x39 : Int32} {x40 : Int32} (hX : Ok X S cX10_swap RX10 8 rm_X10_swap) (hR : HRt X S cX10_swap .int r)  (hk130 : ∀ (w : Wd) (x14 : Int32) (x15 : Int32) (x16 : Int32) , k130 w x14 x15 x16 = some r → V X S w 130 [(0, rf S 0), (1, .int x14), (2, .int x15), (3, .int x16), (4, .int x9)] []) (hrc : ∀ (w : Wd) (x10 : Int32) (x11 : Int32) (x12 : Int32) (x13 : Int32) , rc w x10 x11 x12 x13 = some r → V X S w 19 [(0, rf S 0), (1, .int x10), (2, .int x11), (3, .int x12), (4, .int x9), (5, .int x13)] [])  (hP : K_X10_swap_124 F x9 k130 rc w x37 x38 x39 x40 = some r) : V X S w 124 [(0, rf S 0), (1, .int x37), (2, .int x38), (3, .int x39), (4, .int x9), (5, .int x40)] [] := by
  unfold K_X10_swap_124 at hP
  obtain ⟨x41, ex41⟩ : ∃ y : Int32, y = x40 + 1 := ⟨_, rfl⟩
  replace hP := lt_r ex41 hP
  refine V_iinc (v := x41) (lv' := [(5, .int x41), (0, rf S 0), (1, .int x37), (2, .int x38), (3, .int x39), (4, .int x9)]) hX dX10_swap_124 (j := 5) rfl (by decide) (by rw [ex41]; rfl) rfl ?_
  refine V_goto (tgt := 19) hX dX10_swap_127 (by decide) ?_
  refine V_sub (lv' := [(0, rf S 0), (1, .int x37), (2, .int x38), (3, .int x39), (4, .int x9), (5, .int x41)]) [1, 2, 3, 4, 5, 0] rfl ?_
  exact hrc _ _ _ _ _  hP
def K_X10_swap_107 (F : Nat) (x9 : Int32) (k130 : Wd → Int32 → Int32 → Int32 → Option (Int32 × Wd)) (rc : Wd → Int32 → Int32 → Int32 → Int32 → Option (Int32 × Wd)) (w : Wd) (x31 : Int32) (x32 : Int32) (x33 : Int32) (x34 : Int32) (x35 : Int32) : Option (Int32 × Wd) := (if x35 ≤ x31 then K_X10_swap_124 F x9 k130 rc w x31 x32 x33 x34 else K_X10_swap_124 F x9 k130 rc w x35 x9 x34 x34)
set_option maxRecDepth 100000 in
set_option maxHeartbeats 4000000 in
theorem sK_X10_swap_107 {X : Cx} {S : Sx} {r : Int32 × Wd} {F : Nat} {x9 : Int32} {k130 : Wd → Int32 → Int32 → Int32 → Option (Int32 × Wd)} {rc : Wd → Int32 → Int32 → Int32 → Int32 → Option (Int32 × Wd)} {w : Wd} {x31 : Int32} {x32 : Int32} {x33 : Int32} {x34 : Int32} {x35 : Int32} (hX : Ok X S cX10_swap RX10 8 rm_X10_swap) (hR : HRt X S cX10_swap .int r)  (hk130 : ∀ (w : Wd) (x14 : Int32) (x15 : Int32) (x16 : Int32) , k130 w x14 x15 x16 = some r → V X S w 130 [(0, rf S 0), (1, .int x14), (2, .int x15), (3, .int x16), (4, .int x9)] []) (hrc : ∀ (w : Wd) (x10 : Int32) (x11 : Int32) (x12 : Int32) (x13 : Int32) , rc w x10 x11 x12 x13 = some r → V X S w 19 [(0, rf S 0), (1, .int x10), (2, .int x11), (3, .int x12), (4, .int x9), (5, .int x13)] [])  (hP : K_X10_swap_107 F x9 k130 rc w x31 x32 x33 x34 x35 = some r) : V X S w 107 [(0, rf S 0), (1, .int x31), (2, .int x32), (3, .int x33), (4, .int x9), (5, .int x34)] [.int x35] := by
  unfold K_X10_swap_107 at hP
  refine V_istore (lv' := [(7, .int x35), (0, rf S 0), (1, .int x31), (2, .int x32), (3, .int x33), (4, .int x9), (5, .int x34)]) hX dX10_swap_107 (by decide) rfl ?_
  refine V_iload hX dX10_swap_109 0 rfl ?_
  refine V_iload_n hX dX10_swap_111 2 rfl ?_
  refine V_icmp_le (tgt := 124) hX dX10_swap_112 (by decide) (fun hc36 => ?_) (fun hc36 => ?_)
  · replace hP := ite_t hc36 hP
    refine V_sub (lv' := [(0, rf S 0), (1, .int x31), (2, .int x32), (3, .int x33), (4, .int x9), (5, .int x34)]) [1, 2, 3, 4, 5, 6] rfl ?_
    exact sK_X10_swap_124 hX hR  hk130 hrc  hP
  · replace hP := ite_f hc36 hP
    refine V_iload hX dX10_swap_115 0 rfl ?_
    refine V_istore_n (lv' := [(1, .int x35), (7, .int x35), (0, rf S 0), (2, .int x32), (3, .int x33), (4, .int x9), (5, .int x34)]) hX dX10_swap_117 (by decide) rfl ?_
    refine V_iload hX dX10_swap_118 5 rfl ?_
    refine V_istore_n (lv' := [(2, .int x9), (1, .int x35), (7, .int x35), (0, rf S 0), (3, .int x33), (4, .int x9), (5, .int x34)]) hX dX10_swap_120 (by decide) rfl ?_
    refine V_iload hX dX10_swap_121 6 rfl ?_
    refine V_istore_n (lv' := [(3, .int x34), (2, .int x9), (1, .int x35), (7, .int x35), (0, rf S 0), (4, .int x9), (5, .int x34)]) hX dX10_swap_123 (by decide) rfl ?_
    refine V_sub (lv' := [(0, rf S 0), (1, .int x35), (2, .int x9), (3, .int x34), (4, .int x9), (5, .int x34)]) [4, 2, 1, 0, 5, 6] rfl ?_
    exact sK_X10_swap_124 hX hR  hk130 hrc  hP
def K_X10_swap_70 (F : Nat) (x9 : Int32) (k130 : Wd → Int32 → Int32 → Int32 → Option (Int32 × Wd)) (rc : Wd → Int32 → Int32 → Int32 → Int32 → Option (Int32 × Wd)) (w : Wd) (x25 : Int32) (x26 : Int32) (x27 : Int32) (x28 : Int32) (x29 : Int32) : Option (Int32 × Wd) := (if x29 = 0 then K_X10_swap_107 F x9 k130 rc w x25 x26 x27 x28 ((-1)) else bnd (P_X10_ringsAlone F w (((gI w 23 1) &&& ((ishlI 1 x9) ^^^ ((-1)))) ||| (ishlI 1 x28)) 999) (fun x43 w42 => K_X10_swap_107 F x9 k130 rc w42 x25 x26 x27 x28 x43))
set_option maxRecDepth 100000 in
set_option maxHeartbeats 4000000 in
theorem sK_X10_swap_70 {X : Cx} {S : Sx} {r : Int32 × Wd} {F : Nat} {x9 : Int32} {k130 : Wd → Int32 → Int32 → Int32 → Option (Int32 × Wd)} {rc : Wd → Int32 → Int32 → Int32 → Int32 → Option (Int32 × Wd)} {w : Wd} {x25 : Int32} {x26 : Int32} {x27 : Int32} {x28 : Int32} {x29 : Int32} (hX : Ok X S cX10_swap RX10 8 rm_X10_swap) (hR : HRt X S cX10_swap .int r)  (hk130 : ∀ (w : Wd) (x14 : Int32) (x15 : Int32) (x16 : Int32) , k130 w x14 x15 x16 = some r → V X S w 130 [(0, rf S 0), (1, .int x14), (2, .int x15), (3, .int x16), (4, .int x9)] []) (hrc : ∀ (w : Wd) (x10 : Int32) (x11 : Int32) (x12 : Int32) (x13 : Int32) , rc w x10 x11 x12 x13 = some r → V X S w 19 [(0, rf S 0), (1, .int x10), (2, .int x11), (3, .int x12), (4, .int x9), (5, .int x13)] [])  (hP : K_X10_swap_70 F x9 k130 rc w x25 x26 x27 x28 x29 = some r) : V X S w 70 [(0, rf S 0), (1, .int x25), (2, .int x26), (3, .int x27), (4, .int x9), (5, .int x28)] [.int x29] := by
  unfold K_X10_swap_70 at hP
  refine V_istore (lv' := [(6, .int x29), (0, rf S 0), (1, .int x25), (2, .int x26), (3, .int x27), (4, .int x9), (5, .int x28)]) hX dX10_swap_70 (by decide) rfl ?_
  refine V_iload hX dX10_swap_72 0 rfl ?_
  refine V_if_eq (tgt := 106) hX dX10_swap_74 (by decide) (fun hc30 => ?_) (fun hc30 => ?_)
  · replace hP := ite_t hc30 hP
    refine V_iconst (v := (-1)) hX dX10_swap_106 (by decide) ?_
    refine V_sub (lv' := [(0, rf S 0), (1, .int x25), (2, .int x26), (3, .int x27), (4, .int x9), (5, .int x28)]) [1, 2, 3, 4, 5, 6] rfl ?_
    exact sK_X10_swap_107 hX hR  hk130 hrc  hP
  · replace hP := ite_f hc30 hP
    refine V_aload_n hX dX10_swap_77 1 rfl ?_
    refine V_aload_n hX dX10_swap_78 1 rfl ?_
    refine V_getF (j := 23) hX fk_X10_58 tb_0 (fun _ _ _ => rfl) dX10_swap_79 ?_
    refine V_getI hX fk_X10_148 tb_23 (fun _ _ _ => rfl) dX10_swap_82 ?_
    refine V_iconst (v := 1) hX dX10_swap_85 (by decide) ?_
    refine V_iload hX dX10_swap_86 5 rfl ?_
    refine V_ishl hX dX10_swap_88 ?_
    refine V_iconst (v := (-1)) hX dX10_swap_89 (by decide) ?_
    refine V_ixor hX dX10_swap_90 ?_
    refine V_iand hX dX10_swap_91 ?_
    refine V_iconst (v := 1) hX dX10_swap_92 (by decide) ?_
    refine V_iload hX dX10_swap_93 6 rfl ?_
    refine V_ishl hX dX10_swap_95 ?_
    refine V_ior hX dX10_swap_96 ?_
    refine V_sipush (v := 999) hX dX10_swap_97 (by decide) ?_
    obtain ⟨x43, w42, hcw42, hP⟩ := bnd_e hP
    refine V_callVi (As := [.int (((gI w 23 1) &&& ((ishlI 1 x9) ^^^ ((-1)))) ||| (ishlI 1 x28)), .int 999]) (rest := []) hX mk_X10_275 nk_X10_ringsAlone (fun l => c_X10_ringsAlone l S  hcw42) tb_0 rfl ⟨rfl, rfl, Nat.le_of_ble_eq_true rfl, Nat.le_of_ble_eq_true rfl⟩ rfl rfl (Nat.le_of_ble_eq_true rfl) dX10_swap_100 ?_
    refine V_goto (tgt := 107) hX dX10_swap_103 (by decide) ?_
    refine V_sub (lv' := [(0, rf S 0), (1, .int x25), (2, .int x26), (3, .int x27), (4, .int x9), (5, .int x28)]) [1, 2, 3, 4, 5, 6] rfl ?_
    exact sK_X10_swap_107 hX hR  hk130 hrc  hP
def K_X10_swap_69 (F : Nat) (x9 : Int32) (k130 : Wd → Int32 → Int32 → Int32 → Option (Int32 × Wd)) (rc : Wd → Int32 → Int32 → Int32 → Int32 → Option (Int32 × Wd)) (w : Wd) (x21 : Int32) (x22 : Int32) (x23 : Int32) (x24 : Int32) : Option (Int32 × Wd) := K_X10_swap_70 F x9 k130 rc w x21 x22 x23 x24 0
set_option maxRecDepth 100000 in
set_option maxHeartbeats 4000000 in
theorem sK_X10_swap_69 {X : Cx} {S : Sx} {r : Int32 × Wd} {F : Nat} {x9 : Int32} {k130 : Wd → Int32 → Int32 → Int32 → Option (Int32 × Wd)} {rc : Wd → Int32 → Int32 → Int32 → Int32 → Option (Int32 × Wd)} {w : Wd} {x21 : Int32} {x22 : Int32} {x23 : Int32} {x24 : Int32} (hX : Ok X S cX10_swap RX10 8 rm_X10_swap) (hR : HRt X S cX10_swap .int r)  (hk130 : ∀ (w : Wd) (x14 : Int32) (x15 : Int32) (x16 : Int32) , k130 w x14 x15 x16 = some r → V X S w 130 [(0, rf S 0), (1, .int x14), (2, .int x15), (3, .int x16), (4, .int x9)] []) (hrc : ∀ (w : Wd) (x10 : Int32) (x11 : Int32) (x12 : Int32) (x13 : Int32) , rc w x10 x11 x12 x13 = some r → V X S w 19 [(0, rf S 0), (1, .int x10), (2, .int x11), (3, .int x12), (4, .int x9), (5, .int x13)] [])  (hP : K_X10_swap_69 F x9 k130 rc w x21 x22 x23 x24 = some r) : V X S w 69 [(0, rf S 0), (1, .int x21), (2, .int x22), (3, .int x23), (4, .int x9), (5, .int x24)] [] := by
  unfold K_X10_swap_69 at hP
  refine V_iconst (v := 0) hX dX10_swap_69 (by decide) ?_
  exact sK_X10_swap_70 hX hR  hk130 hrc  hP
def L_X10_swap_19 (F : Nat) (x9 : Int32) (k130 : Wd → Int32 → Int32 → Int32 → Option (Int32 × Wd)) : Nat → Wd → Int32 → Int32 → Int32 → Int32 → Option (Int32 × Wd)
  | 0, _, _, _, _, _ => none
  | n + 1, w, x10, x11, x12, x13 => (if (8 : Int32) ≤ x13 then k130 w x10 x11 x12 else bnd (P_X1_holds F w 23 x9) (fun x19 w18 => (if x19 = 0 then K_X10_swap_69 F x9 k130 ((L_X10_swap_19 F x9 k130 n)) w18 x10 x11 x12 x13 else bnd (P_X5_has F w18 6 x13) (fun x45 w44 => (if x45 = 0 then K_X10_swap_69 F x9 k130 ((L_X10_swap_19 F x9 k130 n)) w44 x10 x11 x12 x13 else bnd (P_X1_holds F w44 23 x13) (fun x48 w47 => lt (if x48 = 0 then 1 else 0 : Int32) (fun x50 => (if x50 = 0 then K_X10_swap_107 F x9 k130 ((L_X10_swap_19 F x9 k130 n)) w47 x10 x11 x12 x13 ((-1)) else bnd (P_X10_ringsAlone F w47 (((gI w47 23 1) &&& ((ishlI 1 x9) ^^^ ((-1)))) ||| (ishlI 1 x13)) 999) (fun x53 w52 => K_X10_swap_107 F x9 k130 ((L_X10_swap_19 F x9 k130 n)) w52 x10 x11 x12 x13 x53)))))))))
set_option maxRecDepth 100000 in
set_option maxHeartbeats 4000000 in
theorem sL_X10_swap_19 {X : Cx} {S : Sx} {r : Int32 × Wd} {F : Nat} {x9 : Int32} {k130 : Wd → Int32 → Int32 → Int32 → Option (Int32 × Wd)} (hX : Ok X S cX10_swap RX10 8 rm_X10_swap) (hR : HRt X S cX10_swap .int r)  (hk130 : ∀ (w : Wd) (x14 : Int32) (x15 : Int32) (x16 : Int32) , k130 w x14 x15 x16 = some r → V X S w 130 [(0, rf S 0), (1, .int x14), (2, .int x15), (3, .int x16), (4, .int x9)] []) : ∀ (n : Nat) (w : Wd) (x10 : Int32) (x11 : Int32) (x12 : Int32) (x13 : Int32) , L_X10_swap_19 F x9 k130 n w x10 x11 x12 x13 = some r → V X S w 19 [(0, rf S 0), (1, .int x10), (2, .int x11), (3, .int x12), (4, .int x9), (5, .int x13)] [] := by
  intro n
  induction n with
  | zero =>
    intro w x10 x11 x12 x13  hP
    exact nn hP
  | succ n ih =>
    intro w x10 x11 x12 x13  hP
    rw [L_X10_swap_19] at hP
    refine V_iload hX dX10_swap_19 5 rfl ?_
    refine V_bipush (v := 8) hX dX10_swap_21 (by decide) ?_
    refine V_icmp_ge (tgt := 130) hX dX10_swap_23 (by decide) (fun hc17 => ?_) (fun hc17 => ?_)
    · replace hP := ite_t hc17 hP
      refine V_sub (lv' := [(0, rf S 0), (1, .int x10), (2, .int x11), (3, .int x12), (4, .int x9)]) [0, 1, 2, 3, 4] rfl ?_
      exact hk130 _ _ _ _  hP
    · replace hP := ite_f hc17 hP
      refine V_aload_n hX dX10_swap_26 0 rfl ?_
      refine V_getF (j := 23) hX fk_X10_58 tb_0 (fun _ _ _ => rfl) dX10_swap_27 ?_
      refine V_iload hX dX10_swap_30 4 rfl ?_
      obtain ⟨x19, w18, hcw18, hP⟩ := bnd_e hP
      refine V_callVi (As := [.int x9]) (rest := []) hX mk_X10_138 nk_X1_holds (fun l => c_X1_holds l S (by decide) hcw18) tb_23 rfl ⟨rfl, rfl, Nat.le_of_ble_eq_true rfl, Nat.le_of_ble_eq_true rfl⟩ rfl rfl (Nat.le_of_ble_eq_true rfl) dX10_swap_32 ?_
      refine V_if_eq (tgt := 69) hX dX10_swap_35 (by decide) (fun hc20 => ?_) (fun hc20 => ?_)
      · replace hP := ite_t hc20 hP
        exact sK_X10_swap_69 hX hR  hk130 ih  hP
      · replace hP := ite_f hc20 hP
        refine V_aload_n hX dX10_swap_38 0 rfl ?_
        refine V_getF (j := 5) hX fk_X10_34 tb_0 (fun _ _ _ => rfl) dX10_swap_39 ?_
        refine V_getF (j := 6) hX fk_X10_38 tb_5 (fun _ _ _ => rfl) dX10_swap_42 ?_
        refine V_iload hX dX10_swap_45 5 rfl ?_
        obtain ⟨x45, w44, hcw44, hP⟩ := bnd_e hP
        refine V_callVi (As := [.int x13]) (rest := []) hX mk_X10_121 nk_X5_has (fun l => c_X5_has l S (by decide) hcw44) tb_6 rfl ⟨rfl, rfl, Nat.le_of_ble_eq_true rfl, Nat.le_of_ble_eq_true rfl⟩ rfl rfl (Nat.le_of_ble_eq_true rfl) dX10_swap_47 ?_
        refine V_if_eq (tgt := 69) hX dX10_swap_50 (by decide) (fun hc46 => ?_) (fun hc46 => ?_)
        · replace hP := ite_t hc46 hP
          exact sK_X10_swap_69 hX hR  hk130 ih  hP
        · replace hP := ite_f hc46 hP
          refine V_aload_n hX dX10_swap_53 0 rfl ?_
          refine V_getF (j := 23) hX fk_X10_58 tb_0 (fun _ _ _ => rfl) dX10_swap_54 ?_
          refine V_iload hX dX10_swap_57 5 rfl ?_
          obtain ⟨x48, w47, hcw47, hP⟩ := bnd_e hP
          refine V_callVi (As := [.int x13]) (rest := []) hX mk_X10_138 nk_X1_holds (fun l => c_X1_holds l S (by decide) hcw47) tb_23 rfl ⟨rfl, rfl, Nat.le_of_ble_eq_true rfl, Nat.le_of_ble_eq_true rfl⟩ rfl rfl (Nat.le_of_ble_eq_true rfl) dX10_swap_59 ?_
          have k54 : V X S w47 70 [(0, rf S 0), (1, .int x10), (2, .int x11), (3, .int x12), (4, .int x9), (5, .int x13)] [.int (if x48 = 0 then 1 else 0)] := by
            refine V_topi (fun x50 ex50 => ?_)
            replace hP := lt_r ex50 hP
            refine V_istore (lv' := [(6, .int x50), (0, rf S 0), (1, .int x10), (2, .int x11), (3, .int x12), (4, .int x9), (5, .int x13)]) hX dX10_swap_70 (by decide) rfl ?_
            refine V_iload hX dX10_swap_72 0 rfl ?_
            refine V_if_eq (tgt := 106) hX dX10_swap_74 (by decide) (fun hc51 => ?_) (fun hc51 => ?_)
            · replace hP := ite_t hc51 hP
              refine V_iconst (v := (-1)) hX dX10_swap_106 (by decide) ?_
              refine V_sub (lv' := [(0, rf S 0), (1, .int x10), (2, .int x11), (3, .int x12), (4, .int x9), (5, .int x13)]) [1, 2, 3, 4, 5, 6] rfl ?_
              exact sK_X10_swap_107 hX hR  hk130 ih  hP
            · replace hP := ite_f hc51 hP
              refine V_aload_n hX dX10_swap_77 1 rfl ?_
              refine V_aload_n hX dX10_swap_78 1 rfl ?_
              refine V_getF (j := 23) hX fk_X10_58 tb_0 (fun _ _ _ => rfl) dX10_swap_79 ?_
              refine V_getI hX fk_X10_148 tb_23 (fun _ _ _ => rfl) dX10_swap_82 ?_
              refine V_iconst (v := 1) hX dX10_swap_85 (by decide) ?_
              refine V_iload hX dX10_swap_86 5 rfl ?_
              refine V_ishl hX dX10_swap_88 ?_
              refine V_iconst (v := (-1)) hX dX10_swap_89 (by decide) ?_
              refine V_ixor hX dX10_swap_90 ?_
              refine V_iand hX dX10_swap_91 ?_
              refine V_iconst (v := 1) hX dX10_swap_92 (by decide) ?_
              refine V_iload hX dX10_swap_93 6 rfl ?_
              refine V_ishl hX dX10_swap_95 ?_
              refine V_ior hX dX10_swap_96 ?_
              refine V_sipush (v := 999) hX dX10_swap_97 (by decide) ?_
              obtain ⟨x53, w52, hcw52, hP⟩ := bnd_e hP
              refine V_callVi (As := [.int (((gI w47 23 1) &&& ((ishlI 1 x9) ^^^ ((-1)))) ||| (ishlI 1 x13)), .int 999]) (rest := []) hX mk_X10_275 nk_X10_ringsAlone (fun l => c_X10_ringsAlone l S  hcw52) tb_0 rfl ⟨rfl, rfl, Nat.le_of_ble_eq_true rfl, Nat.le_of_ble_eq_true rfl⟩ rfl rfl (Nat.le_of_ble_eq_true rfl) dX10_swap_100 ?_
              refine V_goto (tgt := 107) hX dX10_swap_103 (by decide) ?_
              refine V_sub (lv' := [(0, rf S 0), (1, .int x10), (2, .int x11), (3, .int x12), (4, .int x9), (5, .int x13)]) [1, 2, 3, 4, 5, 6] rfl ?_
              exact sK_X10_swap_107 hX hR  hk130 ih  hP
          refine V_if_ne (tgt := 69) hX dX10_swap_62 (by decide) (fun hc49 => ?_) (fun hc49 => ?_)
          · refine V_iconst (v := 0) hX dX10_swap_69 (by decide) ?_
            refine V_selF (c := x48 = 0) (a := 1) hc49 ?_
            exact k54
          · refine V_iconst (v := 1) hX dX10_swap_65 (by decide) ?_
            refine V_goto (tgt := 70) hX dX10_swap_66 (by decide) ?_
            refine V_selT (c := x48 = 0) (b := 0) hc49 ?_
            exact k54
def L_X10_swap_9 (F : Nat)  (k136 : Wd → Int32 → Int32 → Int32 → Option (Int32 × Wd)) : Nat → Wd → Int32 → Int32 → Int32 → Int32 → Option (Int32 × Wd)
  | 0, _, _, _, _, _ => none
  | n + 1, w, x1, x2, x3, x4 => (if (8 : Int32) ≤ x4 then k136 w x1 x2 x3 else L_X10_swap_19 F x4 (fun w x14 x15 x16 => lt (x4 + 1 : Int32) (fun x55 => L_X10_swap_9 F  k136 n w x14 x15 x16 x55)) F w x1 x2 x3 0)
set_option maxRecDepth 100000 in
set_option maxHeartbeats 4000000 in
theorem sL_X10_swap_9 {X : Cx} {S : Sx} {r : Int32 × Wd} {F : Nat}  {k136 : Wd → Int32 → Int32 → Int32 → Option (Int32 × Wd)} (hX : Ok X S cX10_swap RX10 8 rm_X10_swap) (hR : HRt X S cX10_swap .int r)  (hk136 : ∀ (w : Wd) (x5 : Int32) (x6 : Int32) (x7 : Int32) , k136 w x5 x6 x7 = some r → V X S w 136 [(0, rf S 0), (1, .int x5), (2, .int x6), (3, .int x7)] []) : ∀ (n : Nat) (w : Wd) (x1 : Int32) (x2 : Int32) (x3 : Int32) (x4 : Int32) , L_X10_swap_9 F  k136 n w x1 x2 x3 x4 = some r → V X S w 9 [(0, rf S 0), (1, .int x1), (2, .int x2), (3, .int x3), (4, .int x4)] [] := by
  intro n
  induction n with
  | zero =>
    intro w x1 x2 x3 x4  hP
    exact nn hP
  | succ n ih =>
    intro w x1 x2 x3 x4  hP
    rw [L_X10_swap_9] at hP
    refine V_iload hX dX10_swap_9 4 rfl ?_
    refine V_bipush (v := 8) hX dX10_swap_11 (by decide) ?_
    refine V_icmp_ge (tgt := 136) hX dX10_swap_13 (by decide) (fun hc8 => ?_) (fun hc8 => ?_)
    · replace hP := ite_t hc8 hP
      refine V_sub (lv' := [(0, rf S 0), (1, .int x1), (2, .int x2), (3, .int x3)]) [0, 1, 2, 3] rfl ?_
      exact hk136 _ _ _ _  hP
    · replace hP := ite_f hc8 hP
      refine V_iconst (v := 0) hX dX10_swap_16 (by decide) ?_
      refine V_istore (lv' := [(5, .int 0), (0, rf S 0), (1, .int x1), (2, .int x2), (3, .int x3), (4, .int x4)]) hX dX10_swap_17 (by decide) rfl ?_
      refine V_sub (lv' := [(0, rf S 0), (1, .int x1), (2, .int x2), (3, .int x3), (4, .int x4), (5, .int 0)]) [1, 2, 3, 4, 5, 0] rfl ?_
      have k56 : ∀ (w : Wd) (x14 : Int32) (x15 : Int32) (x16 : Int32) , (lt (x4 + 1 : Int32) (fun x55 => L_X10_swap_9 F  k136 n w x14 x15 x16 x55)) = some r → V X S w 130 [(0, rf S 0), (1, .int x14), (2, .int x15), (3, .int x16), (4, .int x4)] [] := by
        intro w x14 x15 x16  hP
        obtain ⟨x55, ex55⟩ : ∃ y : Int32, y = x4 + 1 := ⟨_, rfl⟩
        replace hP := lt_r ex55 hP
        refine V_iinc (v := x55) (lv' := [(4, .int x55), (0, rf S 0), (1, .int x14), (2, .int x15), (3, .int x16)]) hX dX10_swap_130 (j := 4) rfl (by decide) (by rw [ex55]; rfl) rfl ?_
        refine V_goto (tgt := 9) hX dX10_swap_133 (by decide) ?_
        refine V_sub (lv' := [(0, rf S 0), (1, .int x14), (2, .int x15), (3, .int x16), (4, .int x55)]) [1, 2, 3, 4, 0] rfl ?_
        exact ih _ _ _ _ _  hP
      exact sL_X10_swap_19 hX hR  k56 F _ _ _ _ _  hP
def P_X10_swap (F : Nat) (w : Wd)  : Option (Int32 × Wd) := L_X10_swap_9 F  (fun w x5 x6 x7 => (if (0 : Int32) ≤ x5 then bnv (P_X10_tell_ F w (Int32.toInt64 x6) (Int32.toInt64 x7)) (fun w58 => some (x5, w58)) else some ((-2), w))) F w ((-1)) 0 0 0
set_option maxRecDepth 100000 in
set_option maxHeartbeats 4000000 in
theorem s_X10_swap {X : Cx} {S : Sx} {r : Int32 × Wd} {F : Nat} {w : Wd}   (hX : Ok X S cX10_swap RX10 8 rm_X10_swap) (hR : HRt X S cX10_swap .int r) (hP : P_X10_swap F w  = some r) : V X S w 0 [(0, rf S 0)] [] := by
  unfold P_X10_swap at hP
  refine V_iconst (v := (-1)) hX dX10_swap_0 (by decide) ?_
  refine V_istore_n (lv' := [(1, .int ((-1))), (0, rf S 0)]) hX dX10_swap_1 (by decide) rfl ?_
  refine V_iconst (v := 0) hX dX10_swap_2 (by decide) ?_
  refine V_istore_n (lv' := [(2, .int 0), (1, .int ((-1))), (0, rf S 0)]) hX dX10_swap_3 (by decide) rfl ?_
  refine V_iconst (v := 0) hX dX10_swap_4 (by decide) ?_
  refine V_istore_n (lv' := [(3, .int 0), (2, .int 0), (1, .int ((-1))), (0, rf S 0)]) hX dX10_swap_5 (by decide) rfl ?_
  refine V_iconst (v := 0) hX dX10_swap_6 (by decide) ?_
  refine V_istore (lv' := [(4, .int 0), (3, .int 0), (2, .int 0), (1, .int ((-1))), (0, rf S 0)]) hX dX10_swap_7 (by decide) rfl ?_
  refine V_sub (lv' := [(0, rf S 0), (1, .int ((-1))), (2, .int 0), (3, .int 0), (4, .int 0)]) [4, 3, 2, 1, 0] rfl ?_
  have k59 : ∀ (w : Wd) (x5 : Int32) (x6 : Int32) (x7 : Int32) , ((if (0 : Int32) ≤ x5 then bnv (P_X10_tell_ F w (Int32.toInt64 x6) (Int32.toInt64 x7)) (fun w58 => some (x5, w58)) else some ((-2), w))) = some r → V X S w 136 [(0, rf S 0), (1, .int x5), (2, .int x6), (3, .int x7)] [] := by
    intro w x5 x6 x7  hP
    refine V_iload_n hX dX10_swap_136 1 rfl ?_
    refine V_if_ge (tgt := 143) hX dX10_swap_137 (by decide) (fun hc57 => ?_) (fun hc57 => ?_)
    · replace hP := ite_t hc57 hP
      refine V_aload_n hX dX10_swap_143 0 rfl ?_
      refine V_iload_n hX dX10_swap_144 2 rfl ?_
      refine V_i2l hX dX10_swap_145 ?_
      refine V_iload_n hX dX10_swap_146 3 rfl ?_
      refine V_i2l hX dX10_swap_147 ?_
      obtain ⟨w58, hcw58, hP⟩ := bnv_e hP
      refine V_callVv (As := [.long (Int32.toInt64 x6), .long (Int32.toInt64 x7)]) (rest := []) hX mk_X10_202 nk_X10_tell_ (fun l => c_X10_tell_ l S  hcw58) tb_0 rfl ⟨rfl, rfl, Nat.le_of_ble_eq_true rfl, Nat.le_of_ble_eq_true rfl⟩ rfl rfl (Nat.le_of_ble_eq_true rfl) dX10_swap_148 ?_
      refine V_iload_n hX dX10_swap_151 1 rfl ?_
      exact hR _ _ _ _ (Option.some.inj hP) rfl dX10_swap_152
    · replace hP := ite_f hc57 hP
      refine V_bipush (v := (-2)) hX dX10_swap_140 (by decide) ?_
      exact hR _ _ _ _ (Option.some.inj hP) rfl dX10_swap_142
  exact sL_X10_swap_9 hX hR  k59 F _ _ _ _ _  hP
theorem c_X10_swap (l : Launch) (S : Sx) {r : Int32 × Wd} {F : Nat} {w : Wd}   (h : P_X10_swap F w  = some r) : Met l yX10_swap (wsg yX10_swap cX10_swap 8 (some .int)) rm_X10_swap (PC S w [rf S 0]) (QCi S r) 0 0 (Aw S) :=
  met_i (by decide) rfl (Nat.le_of_ble_eq_true rfl) ⟨rfl, rfl⟩ (fun X hX hR => s_X10_swap  hX hR h)

-- MustNotStop.ready(II)I
abbrev rm_X10_ready : Room := { frames := 6, cells := 0, slots := 0, locals := 188 }
theorem nk_X10_ready : MNk yX10_ready RX10 2 := ⟨rfl, by decide, by decide, by decide +kernel⟩
def L_X10_ready_57 (F : Nat) (x1 : Int32) (x2 : Int32) (k133 : Wd → Option (Int32 × Wd)) : Nat → Wd → Int32 → Option (Int32 × Wd)
  | 0, _, _ => none
  | n + 1, w, x10 => (if (120 : Int32) < x10 then k133 w  else bnv (P_X1_copy F w 25 27) (fun w12 => lt (sI w12 25 1 (ishlI 1 x1)) (fun w13 => bnd (P_X9_rungOn F w13 5 25 x2) (fun x15 w14 => (if x15 = x2 then bnd (P_X1_tiredOf F w14 27 x1) (fun x21 w20 => bnv (P_X10_tell F w20 (Int32.toInt64 x21)) (fun w22 => some (x10, w22))) else bnd (P_X9_ring F w14 5 27) (fun x18 w17 => lt (x10 + 1 : Int32) (fun x19 => L_X10_ready_57 F x1 x2 k133 n w17 x19)))))))
set_option maxRecDepth 100000 in
set_option maxHeartbeats 4000000 in
theorem sL_X10_ready_57 {X : Cx} {S : Sx} {r : Int32 × Wd} {F : Nat} {x1 : Int32} {x2 : Int32} {k133 : Wd → Option (Int32 × Wd)} (hX : Ok X S cX10_ready RX10 4 rm_X10_ready) (hR : HRt X S cX10_ready .int r)  (hk133 : ∀ (w : Wd), k133 w = some r → V X S w 133 [] []) : ∀ (n : Nat) (w : Wd) (x10 : Int32) , L_X10_ready_57 F x1 x2 k133 n w x10 = some r → V X S w 57 [(0, rf S 0), (1, .int x1), (2, .int x2), (3, .int x10)] [] := by
  intro n
  induction n with
  | zero =>
    intro w x10  hP
    exact nn hP
  | succ n ih =>
    intro w x10  hP
    rw [L_X10_ready_57] at hP
    refine V_iload_n hX dX10_ready_57 3 rfl ?_
    refine V_bipush (v := 120) hX dX10_ready_58 (by decide) ?_
    refine V_icmp_gt (tgt := 133) hX dX10_ready_60 (by decide) (fun hc11 => ?_) (fun hc11 => ?_)
    · replace hP := ite_t hc11 hP
      refine V_sub (lv' := []) [] rfl ?_
      exact hk133 _   hP
    · replace hP := ite_f hc11 hP
      refine V_aload_n hX dX10_ready_63 0 rfl ?_
      refine V_getF (j := 25) hX fk_X10_62 tb_0 (fun _ _ _ => rfl) dX10_ready_64 ?_
      refine V_aload_n hX dX10_ready_67 0 rfl ?_
      refine V_getF (j := 27) hX fk_X10_65 tb_0 (fun _ _ _ => rfl) dX10_ready_68 ?_
      obtain ⟨w12, hcw12, hP⟩ := bnv_e hP
      refine V_callVv (As := [rf S 27]) (rest := []) hX mk_X10_180 nk_X1_copy (fun l => c_X1_copy l S (by decide) (by decide) hcw12) tb_25 rfl ⟨rfl, rfl, Nat.le_of_ble_eq_true rfl, Nat.le_of_ble_eq_true rfl⟩ rfl rfl (Nat.le_of_ble_eq_true rfl) dX10_ready_71 ?_
      refine V_aload_n hX dX10_ready_74 0 rfl ?_
      refine V_getF (j := 25) hX fk_X10_62 tb_0 (fun _ _ _ => rfl) dX10_ready_75 ?_
      refine V_iconst (v := 1) hX dX10_ready_78 (by decide) ?_
      refine V_iload_n hX dX10_ready_79 1 rfl ?_
      refine V_ishl hX dX10_ready_80 ?_
      refine V_putI hX fw_X10_148 tb_25 (fun _ _ _ => ⟨Nat.le_of_ble_eq_true rfl, rfl⟩) dX10_ready_81 (fun w13 ew13 => ?_)
      replace hP := lt_r ew13 hP
      refine V_aload_n hX dX10_ready_84 0 rfl ?_
      refine V_getF (j := 5) hX fk_X10_34 tb_0 (fun _ _ _ => rfl) dX10_ready_85 ?_
      refine V_aload_n hX dX10_ready_88 0 rfl ?_
      refine V_getF (j := 25) hX fk_X10_62 tb_0 (fun _ _ _ => rfl) dX10_ready_89 ?_
      refine V_iload_n hX dX10_ready_92 2 rfl ?_
      obtain ⟨x15, w14, hcw14, hP⟩ := bnd_e hP
      refine V_callVi (As := [rf S 25, .int x2]) (rest := []) hX mk_X10_257 nk_X9_rungOn (fun l => c_X9_rungOn l S (by decide) (by decide) hcw14) tb_5 rfl ⟨rfl, rfl, Nat.le_of_ble_eq_true rfl, Nat.le_of_ble_eq_true rfl⟩ rfl rfl (Nat.le_of_ble_eq_true rfl) dX10_ready_93 ?_
      refine V_iload_n hX dX10_ready_96 2 rfl ?_
      refine V_icmp_ne (tgt := 115) hX dX10_ready_97 (by decide) (fun hc16 => ?_) (fun hc16 => ?_)
      · replace hP := ite_f hc16 hP
        refine V_aload_n hX dX10_ready_115 0 rfl ?_
        refine V_getF (j := 5) hX fk_X10_34 tb_0 (fun _ _ _ => rfl) dX10_ready_116 ?_
        refine V_aload_n hX dX10_ready_119 0 rfl ?_
        refine V_getF (j := 27) hX fk_X10_65 tb_0 (fun _ _ _ => rfl) dX10_ready_120 ?_
        obtain ⟨x18, w17, hcw17, hP⟩ := bnd_e hP
        refine V_callVi (As := [rf S 27]) (rest := []) hX mk_X10_253 nk_X9_ring (fun l => c_X9_ring l S (by decide) (by decide) hcw17) tb_5 rfl ⟨rfl, rfl, Nat.le_of_ble_eq_true rfl, Nat.le_of_ble_eq_true rfl⟩ rfl rfl (Nat.le_of_ble_eq_true rfl) dX10_ready_123 ?_
        refine V_pop hX dX10_ready_126 rfl ?_
        obtain ⟨x19, ex19⟩ : ∃ y : Int32, y = x10 + 1 := ⟨_, rfl⟩
        replace hP := lt_r ex19 hP
        refine V_iinc (v := x19) (lv' := [(3, .int x19), (0, rf S 0), (1, .int x1), (2, .int x2)]) hX dX10_ready_127 (j := 3) rfl (by decide) (by rw [ex19]; rfl) rfl ?_
        refine V_goto (tgt := 57) hX dX10_ready_130 (by decide) ?_
        refine V_sub (lv' := [(0, rf S 0), (1, .int x1), (2, .int x2), (3, .int x19)]) [1, 2, 3, 0] rfl ?_
        exact ih _ _  hP
      · replace hP := ite_t hc16 hP
        refine V_aload_n hX dX10_ready_100 0 rfl ?_
        refine V_aload_n hX dX10_ready_101 0 rfl ?_
        refine V_getF (j := 27) hX fk_X10_65 tb_0 (fun _ _ _ => rfl) dX10_ready_102 ?_
        refine V_iload_n hX dX10_ready_105 1 rfl ?_
        obtain ⟨x21, w20, hcw20, hP⟩ := bnd_e hP
        refine V_callVi (As := [.int x1]) (rest := [rf S 0]) hX mk_X10_135 nk_X1_tiredOf (fun l => c_X1_tiredOf l S (by decide) hcw20) tb_27 rfl ⟨rfl, rfl, Nat.le_of_ble_eq_true rfl, Nat.le_of_ble_eq_true rfl⟩ rfl rfl (Nat.le_of_ble_eq_true rfl) dX10_ready_106 ?_
        refine V_i2l hX dX10_ready_109 ?_
        obtain ⟨w22, hcw22, hP⟩ := bnv_e hP
        refine V_callVv (As := [.long (Int32.toInt64 x21)]) (rest := []) hX mk_X10_263 nk_X10_tell (fun l => c_X10_tell l S  hcw22) tb_0 rfl ⟨rfl, rfl, Nat.le_of_ble_eq_true rfl, Nat.le_of_ble_eq_true rfl⟩ rfl rfl (Nat.le_of_ble_eq_true rfl) dX10_ready_110 ?_
        refine V_iload_n hX dX10_ready_113 3 rfl ?_
        exact hR _ _ _ _ (Option.some.inj hP) rfl dX10_ready_114
def P_X10_ready (F : Nat) (w : Wd) (x1 : Int32) (x2 : Int32) : Option (Int32 × Wd) := bnd (P_X5_has F w 6 x1) (fun x4 w3 => (if x4 = 0 then some ((-1), w3) else (if x2 < 1 then some ((-1), w3) else (if x2 ≤ 60 then bnv (P_X1_copy F w3 27 23) (fun w8 => lt (sI w8 27 1 ((gI w8 27 1) &&& ((ishlI 1 x1) ^^^ ((-1))))) (fun w9 => L_X10_ready_57 F x1 x2 (fun w  => some ((-2), w)) F w9 0)) else some ((-1), w3)))))
set_option maxRecDepth 100000 in
set_option maxHeartbeats 4000000 in
theorem s_X10_ready {X : Cx} {S : Sx} {r : Int32 × Wd} {F : Nat} {w : Wd} {x1 : Int32} {x2 : Int32}  (hX : Ok X S cX10_ready RX10 4 rm_X10_ready) (hR : HRt X S cX10_ready .int r) (hP : P_X10_ready F w x1 x2 = some r) : V X S w 0 [(0, rf S 0), (1, .int x1), (2, .int x2)] [] := by
  unfold P_X10_ready at hP
  refine V_aload_n hX dX10_ready_0 0 rfl ?_
  refine V_getF (j := 5) hX fk_X10_34 tb_0 (fun _ _ _ => rfl) dX10_ready_1 ?_
  refine V_getF (j := 6) hX fk_X10_38 tb_5 (fun _ _ _ => rfl) dX10_ready_4 ?_
  refine V_iload_n hX dX10_ready_7 1 rfl ?_
  obtain ⟨x4, w3, hcw3, hP⟩ := bnd_e hP
  refine V_callVi (As := [.int x1]) (rest := []) hX mk_X10_121 nk_X5_has (fun l => c_X5_has l S (by decide) hcw3) tb_6 rfl ⟨rfl, rfl, Nat.le_of_ble_eq_true rfl, Nat.le_of_ble_eq_true rfl⟩ rfl rfl (Nat.le_of_ble_eq_true rfl) dX10_ready_8 ?_
  refine V_if_eq (tgt := 25) hX dX10_ready_11 (by decide) (fun hc5 => ?_) (fun hc5 => ?_)
  · replace hP := ite_t hc5 hP
    refine V_iconst (v := (-1)) hX dX10_ready_25 (by decide) ?_
    exact hR _ _ _ _ (Option.some.inj hP) rfl dX10_ready_26
  · replace hP := ite_f hc5 hP
    refine V_iload_n hX dX10_ready_14 2 rfl ?_
    refine V_iconst (v := 1) hX dX10_ready_15 (by decide) ?_
    refine V_icmp_lt (tgt := 25) hX dX10_ready_16 (by decide) (fun hc6 => ?_) (fun hc6 => ?_)
    · replace hP := ite_t hc6 hP
      refine V_iconst (v := (-1)) hX dX10_ready_25 (by decide) ?_
      exact hR _ _ _ _ (Option.some.inj hP) rfl dX10_ready_26
    · replace hP := ite_f hc6 hP
      refine V_iload_n hX dX10_ready_19 2 rfl ?_
      refine V_bipush (v := 60) hX dX10_ready_20 (by decide) ?_
      refine V_icmp_le (tgt := 27) hX dX10_ready_22 (by decide) (fun hc7 => ?_) (fun hc7 => ?_)
      · replace hP := ite_t hc7 hP
        refine V_aload_n hX dX10_ready_27 0 rfl ?_
        refine V_getF (j := 27) hX fk_X10_65 tb_0 (fun _ _ _ => rfl) dX10_ready_28 ?_
        refine V_aload_n hX dX10_ready_31 0 rfl ?_
        refine V_getF (j := 23) hX fk_X10_58 tb_0 (fun _ _ _ => rfl) dX10_ready_32 ?_
        obtain ⟨w8, hcw8, hP⟩ := bnv_e hP
        refine V_callVv (As := [rf S 23]) (rest := []) hX mk_X10_180 nk_X1_copy (fun l => c_X1_copy l S (by decide) (by decide) hcw8) tb_27 rfl ⟨rfl, rfl, Nat.le_of_ble_eq_true rfl, Nat.le_of_ble_eq_true rfl⟩ rfl rfl (Nat.le_of_ble_eq_true rfl) dX10_ready_35 ?_
        refine V_aload_n hX dX10_ready_38 0 rfl ?_
        refine V_getF (j := 27) hX fk_X10_65 tb_0 (fun _ _ _ => rfl) dX10_ready_39 ?_
        refine V_dup hX dX10_ready_42 rfl ?_
        refine V_getI hX fk_X10_148 tb_27 (fun _ _ _ => rfl) dX10_ready_43 ?_
        refine V_iconst (v := 1) hX dX10_ready_46 (by decide) ?_
        refine V_iload_n hX dX10_ready_47 1 rfl ?_
        refine V_ishl hX dX10_ready_48 ?_
        refine V_iconst (v := (-1)) hX dX10_ready_49 (by decide) ?_
        refine V_ixor hX dX10_ready_50 ?_
        refine V_iand hX dX10_ready_51 ?_
        refine V_putI hX fw_X10_148 tb_27 (fun _ _ _ => ⟨Nat.le_of_ble_eq_true rfl, rfl⟩) dX10_ready_52 (fun w9 ew9 => ?_)
        replace hP := lt_r ew9 hP
        refine V_iconst (v := 0) hX dX10_ready_55 (by decide) ?_
        refine V_istore_n (lv' := [(3, .int 0), (0, rf S 0), (1, .int x1), (2, .int x2)]) hX dX10_ready_56 (by decide) rfl ?_
        refine V_sub (lv' := [(0, rf S 0), (1, .int x1), (2, .int x2), (3, .int 0)]) [1, 2, 3, 0] rfl ?_
        have k23 : ∀ (w : Wd)  , (some ((-2), w)) = some r → V X S w 133 [] [] := by
          intro w   hP
          refine V_bipush (v := (-2)) hX dX10_ready_133 (by decide) ?_
          exact hR _ _ _ _ (Option.some.inj hP) rfl dX10_ready_135
        exact sL_X10_ready_57 hX hR  k23 F _ _  hP
      · replace hP := ite_f hc7 hP
        refine V_iconst (v := (-1)) hX dX10_ready_25 (by decide) ?_
        exact hR _ _ _ _ (Option.some.inj hP) rfl dX10_ready_26
theorem c_X10_ready (l : Launch) (S : Sx) {r : Int32 × Wd} {F : Nat} {w : Wd} {x1 : Int32} {x2 : Int32}  (h : P_X10_ready F w x1 x2 = some r) : Met l yX10_ready (wsg yX10_ready cX10_ready 4 (some .int)) rm_X10_ready (PC S w [rf S 0, .int x1, .int x2]) (QCi S r) 0 0 (Aw S) :=
  met_i (by decide) rfl (Nat.le_of_ble_eq_true rfl) ⟨rfl, rfl⟩ (fun X hX hR => s_X10_ready  hX hR h)

-- MustNotStop.tellRota(I)V
abbrev rm_X10_tellRota : Room := { frames := 2, cells := 0, slots := 0, locals := 86 }
theorem nk_X10_tellRota : MNk yX10_tellRota RX10 1 := ⟨rfl, by decide, by decide, by decide +kernel⟩
def L_X10_tellRota_9 (F : Nat) (x1 : Int32) (k36 : Wd → Option (Wd)) : Nat → Wd → Int32 → Option (Wd)
  | 0, _, _ => none
  | n + 1, w, x3 => (if x1 ≤ x3 then k36 w  else bnd (P_X6_bestIn F w x3) (fun x6 w5 => bnv (P_X7_add F w5 (Int32.toInt64 x6)) (fun w7 => lt (x3 + 1 : Int32) (fun x8 => L_X10_tellRota_9 F x1 k36 n w7 x8))))
set_option maxRecDepth 100000 in
set_option maxHeartbeats 4000000 in
theorem sL_X10_tellRota_9 {X : Cx} {S : Sx} {r : Wd} {F : Nat} {x1 : Int32} {k36 : Wd → Option (Wd)} (hX : Ok X S cX10_tellRota RX10 3 rm_X10_tellRota) (hR : HRv X S cX10_tellRota r)  (hk36 : ∀ (w : Wd), k36 w = some r → V X S w 36 [] []) : ∀ (n : Nat) (w : Wd) (x3 : Int32) , L_X10_tellRota_9 F x1 k36 n w x3 = some r → V X S w 9 [(0, rf S 0), (1, .int x1), (2, .int x3)] [] := by
  intro n
  induction n with
  | zero =>
    intro w x3  hP
    exact nn hP
  | succ n ih =>
    intro w x3  hP
    rw [L_X10_tellRota_9] at hP
    refine V_iload_n hX dX10_tellRota_9 2 rfl ?_
    refine V_iload_n hX dX10_tellRota_10 1 rfl ?_
    refine V_icmp_ge (tgt := 36) hX dX10_tellRota_11 (by decide) (fun hc4 => ?_) (fun hc4 => ?_)
    · replace hP := ite_t hc4 hP
      refine V_sub (lv' := []) [] rfl ?_
      exact hk36 _   hP
    · replace hP := ite_f hc4 hP
      refine V_aload_n hX dX10_tellRota_14 0 rfl ?_
      refine V_getF (j := 3) hX fk_X10_19 tb_0 (fun _ _ _ => rfl) dX10_tellRota_15 ?_
      refine V_aload_n hX dX10_tellRota_18 0 rfl ?_
      refine V_getF (j := 62) hX fk_X10_86 tb_0 (fun _ _ _ => rfl) dX10_tellRota_19 ?_
      refine V_iload_n hX dX10_tellRota_22 2 rfl ?_
      obtain ⟨x6, w5, hcw5, hP⟩ := bnd_e hP
      refine V_callVi (As := [.int x3]) (rest := [rf S 3]) hX mk_X10_290 nk_X6_bestIn (fun l => c_X6_bestIn l S  hcw5) tb_62 rfl ⟨rfl, rfl, Nat.le_of_ble_eq_true rfl, Nat.le_of_ble_eq_true rfl⟩ rfl rfl (Nat.le_of_ble_eq_true rfl) dX10_tellRota_23 ?_
      refine V_i2l hX dX10_tellRota_26 ?_
      obtain ⟨w7, hcw7, hP⟩ := bnv_e hP
      refine V_callVv (As := [.long (Int32.toInt64 x6)]) (rest := []) hX mk_X10_293 nk_X7_add (fun l => c_X7_add l S  hcw7) tb_3 rfl ⟨rfl, rfl, Nat.le_of_ble_eq_true rfl, Nat.le_of_ble_eq_true rfl⟩ rfl rfl (Nat.le_of_ble_eq_true rfl) dX10_tellRota_27 ?_
      obtain ⟨x8, ex8⟩ : ∃ y : Int32, y = x3 + 1 := ⟨_, rfl⟩
      replace hP := lt_r ex8 hP
      refine V_iinc (v := x8) (lv' := [(2, .int x8), (0, rf S 0), (1, .int x1)]) hX dX10_tellRota_30 (j := 2) rfl (by decide) (by rw [ex8]; rfl) rfl ?_
      refine V_goto (tgt := 9) hX dX10_tellRota_33 (by decide) ?_
      refine V_sub (lv' := [(0, rf S 0), (1, .int x1), (2, .int x8)]) [1, 2, 0] rfl ?_
      exact ih _ _  hP
def P_X10_tellRota (F : Nat) (w : Wd) (x1 : Int32) : Option (Wd) := bnv (P_X7_clear F w ) (fun w2 => L_X10_tellRota_9 F x1 (fun w  => some w) F w2 0)
set_option maxRecDepth 100000 in
set_option maxHeartbeats 4000000 in
theorem s_X10_tellRota {X : Cx} {S : Sx} {r : Wd} {F : Nat} {w : Wd} {x1 : Int32}  (hX : Ok X S cX10_tellRota RX10 3 rm_X10_tellRota) (hR : HRv X S cX10_tellRota r) (hP : P_X10_tellRota F w x1 = some r) : V X S w 0 [(0, rf S 0), (1, .int x1)] [] := by
  unfold P_X10_tellRota at hP
  refine V_aload_n hX dX10_tellRota_0 0 rfl ?_
  refine V_getF (j := 3) hX fk_X10_19 tb_0 (fun _ _ _ => rfl) dX10_tellRota_1 ?_
  obtain ⟨w2, hcw2, hP⟩ := bnv_e hP
  refine V_callVv (As := []) (rest := []) hX mk_X10_289 nk_X7_clear (fun l => c_X7_clear l S  hcw2) tb_3 rfl ⟨rfl, rfl, Nat.le_of_ble_eq_true rfl, Nat.le_of_ble_eq_true rfl⟩ rfl rfl (Nat.le_of_ble_eq_true rfl) dX10_tellRota_4 ?_
  refine V_iconst (v := 0) hX dX10_tellRota_7 (by decide) ?_
  refine V_istore_n (lv' := [(2, .int 0), (0, rf S 0), (1, .int x1)]) hX dX10_tellRota_8 (by decide) rfl ?_
  refine V_sub (lv' := [(0, rf S 0), (1, .int x1), (2, .int 0)]) [1, 2, 0] rfl ?_
  have k9 : ∀ (w : Wd)  , (some w) = some r → V X S w 36 [] [] := by
    intro w   hP
    exact hR _ _ _ (Option.some.inj hP) dX10_tellRota_36
  exact sL_X10_tellRota_9 hX hR  k9 F _ _  hP
theorem c_X10_tellRota (l : Launch) (S : Sx) {r : Wd} {F : Nat} {w : Wd} {x1 : Int32}  (h : P_X10_tellRota F w x1 = some r) : Met l yX10_tellRota (wsg yX10_tellRota cX10_tellRota 3 none) rm_X10_tellRota (PC S w [rf S 0, .int x1]) (QCv S r) 0 0 (Aw S) :=
  met_v (by decide) rfl (Nat.le_of_ble_eq_true rfl) ⟨rfl, rfl⟩ (fun X hX hR => s_X10_tellRota  hX hR h)

-- MustNotStop.bestRota(III)I
abbrev rm_X10_bestRota : Room := { frames := 7, cells := 0, slots := 0, locals := 220 }
theorem nk_X10_bestRota : MNk yX10_bestRota RX10 3 := ⟨rfl, by decide, by decide, by decide +kernel⟩
def P_X10_bestRota (F : Nat) (w : Wd) (x1 : Int32) (x2 : Int32) (x3 : Int32) : Option (Int32 × Wd) := (if x1 < 1 then some ((-1), w) else (if (4 : Int32) < x1 then some ((-1), w) else (if x2 < 1 then some ((-1), w) else (if x2 ≤ 20 then bnd (P_X6_search F w 5 23 x1 x2 x3) (fun x9 w8 => (if (0 : Int32) ≤ x9 then bnv (P_X10_tellRota F w8 x1) (fun w11 => some (x9, w11)) else some ((-2), w8))) else some ((-1), w)))))
set_option maxRecDepth 100000 in
set_option maxHeartbeats 4000000 in
theorem s_X10_bestRota {X : Cx} {S : Sx} {r : Int32 × Wd} {F : Nat} {w : Wd} {x1 : Int32} {x2 : Int32} {x3 : Int32}  (hX : Ok X S cX10_bestRota RX10 5 rm_X10_bestRota) (hR : HRt X S cX10_bestRota .int r) (hP : P_X10_bestRota F w x1 x2 x3 = some r) : V X S w 0 [(0, rf S 0), (1, .int x1), (2, .int x2), (3, .int x3)] [] := by
  unfold P_X10_bestRota at hP
  refine V_iload_n hX dX10_bestRota_0 1 rfl ?_
  refine V_iconst (v := 1) hX dX10_bestRota_1 (by decide) ?_
  refine V_icmp_lt (tgt := 21) hX dX10_bestRota_2 (by decide) (fun hc4 => ?_) (fun hc4 => ?_)
  · replace hP := ite_t hc4 hP
    refine V_iconst (v := (-1)) hX dX10_bestRota_21 (by decide) ?_
    exact hR _ _ _ _ (Option.some.inj hP) rfl dX10_bestRota_22
  · replace hP := ite_f hc4 hP
    refine V_iload_n hX dX10_bestRota_5 1 rfl ?_
    refine V_iconst (v := 4) hX dX10_bestRota_6 (by decide) ?_
    refine V_icmp_gt (tgt := 21) hX dX10_bestRota_7 (by decide) (fun hc5 => ?_) (fun hc5 => ?_)
    · replace hP := ite_t hc5 hP
      refine V_iconst (v := (-1)) hX dX10_bestRota_21 (by decide) ?_
      exact hR _ _ _ _ (Option.some.inj hP) rfl dX10_bestRota_22
    · replace hP := ite_f hc5 hP
      refine V_iload_n hX dX10_bestRota_10 2 rfl ?_
      refine V_iconst (v := 1) hX dX10_bestRota_11 (by decide) ?_
      refine V_icmp_lt (tgt := 21) hX dX10_bestRota_12 (by decide) (fun hc6 => ?_) (fun hc6 => ?_)
      · replace hP := ite_t hc6 hP
        refine V_iconst (v := (-1)) hX dX10_bestRota_21 (by decide) ?_
        exact hR _ _ _ _ (Option.some.inj hP) rfl dX10_bestRota_22
      · replace hP := ite_f hc6 hP
        refine V_iload_n hX dX10_bestRota_15 2 rfl ?_
        refine V_bipush (v := 20) hX dX10_bestRota_16 (by decide) ?_
        refine V_icmp_le (tgt := 23) hX dX10_bestRota_18 (by decide) (fun hc7 => ?_) (fun hc7 => ?_)
        · replace hP := ite_t hc7 hP
          refine V_aload_n hX dX10_bestRota_23 0 rfl ?_
          refine V_getF (j := 62) hX fk_X10_86 tb_0 (fun _ _ _ => rfl) dX10_bestRota_24 ?_
          refine V_aload_n hX dX10_bestRota_27 0 rfl ?_
          refine V_getF (j := 5) hX fk_X10_34 tb_0 (fun _ _ _ => rfl) dX10_bestRota_28 ?_
          refine V_aload_n hX dX10_bestRota_31 0 rfl ?_
          refine V_getF (j := 23) hX fk_X10_58 tb_0 (fun _ _ _ => rfl) dX10_bestRota_32 ?_
          refine V_iload_n hX dX10_bestRota_35 1 rfl ?_
          refine V_iload_n hX dX10_bestRota_36 2 rfl ?_
          refine V_iload_n hX dX10_bestRota_37 3 rfl ?_
          obtain ⟨x9, w8, hcw8, hP⟩ := bnd_e hP
          refine V_callVi (As := [rf S 5, rf S 23, .int x1, .int x2, .int x3]) (rest := []) hX mk_X10_282 nk_X6_search (fun l => c_X6_search l S (by decide) (by decide) hcw8) tb_62 rfl ⟨rfl, rfl, Nat.le_of_ble_eq_true rfl, Nat.le_of_ble_eq_true rfl⟩ rfl rfl (Nat.le_of_ble_eq_true rfl) dX10_bestRota_38 ?_
          refine V_istore (lv' := [(4, .int x9), (0, rf S 0), (1, .int x1), (2, .int x2), (3, .int x3)]) hX dX10_bestRota_41 (by decide) rfl ?_
          refine V_iload hX dX10_bestRota_43 0 rfl ?_
          refine V_if_ge (tgt := 51) hX dX10_bestRota_45 (by decide) (fun hc10 => ?_) (fun hc10 => ?_)
          · replace hP := ite_t hc10 hP
            refine V_aload_n hX dX10_bestRota_51 1 rfl ?_
            refine V_iload_n hX dX10_bestRota_52 2 rfl ?_
            obtain ⟨w11, hcw11, hP⟩ := bnv_e hP
            refine V_callVv (As := [.int x1]) (rest := []) hX mk_X10_286 nk_X10_tellRota (fun l => c_X10_tellRota l S  hcw11) tb_0 rfl ⟨rfl, rfl, Nat.le_of_ble_eq_true rfl, Nat.le_of_ble_eq_true rfl⟩ rfl rfl (Nat.le_of_ble_eq_true rfl) dX10_bestRota_53 ?_
            refine V_iload hX dX10_bestRota_56 0 rfl ?_
            exact hR _ _ _ _ (Option.some.inj hP) rfl dX10_bestRota_58
          · replace hP := ite_f hc10 hP
            refine V_bipush (v := (-2)) hX dX10_bestRota_48 (by decide) ?_
            exact hR _ _ _ _ (Option.some.inj hP) rfl dX10_bestRota_50
        · replace hP := ite_f hc7 hP
          refine V_iconst (v := (-1)) hX dX10_bestRota_21 (by decide) ?_
          exact hR _ _ _ _ (Option.some.inj hP) rfl dX10_bestRota_22
theorem c_X10_bestRota (l : Launch) (S : Sx) {r : Int32 × Wd} {F : Nat} {w : Wd} {x1 : Int32} {x2 : Int32} {x3 : Int32}  (h : P_X10_bestRota F w x1 x2 x3 = some r) : Met l yX10_bestRota (wsg yX10_bestRota cX10_bestRota 5 (some .int)) rm_X10_bestRota (PC S w [rf S 0, .int x1, .int x2, .int x3]) (QCi S r) 0 0 (Aw S) :=
  met_i (by decide) rfl (Nat.le_of_ble_eq_true rfl) ⟨rfl, rfl⟩ (fun X hX hR => s_X10_bestRota  hX hR h)

-- MustNotStop.rota(II)I
abbrev rm_X10_rota : Room := { frames := 8, cells := 0, slots := 0, locals := 244 }
theorem nk_X10_rota : MNk yX10_rota RX10 2 := ⟨rfl, by decide, by decide, by decide +kernel⟩
def P_X10_rota (F : Nat) (w : Wd) (x1 : Int32) (x2 : Int32) : Option (Int32 × Wd) := bnd (P_X10_bestRota F w x1 x2 1) (fun x4 w3 => some (x4, w3))
set_option maxRecDepth 100000 in
set_option maxHeartbeats 4000000 in
theorem s_X10_rota {X : Cx} {S : Sx} {r : Int32 × Wd} {F : Nat} {w : Wd} {x1 : Int32} {x2 : Int32}  (hX : Ok X S cX10_rota RX10 3 rm_X10_rota) (hR : HRt X S cX10_rota .int r) (hP : P_X10_rota F w x1 x2 = some r) : V X S w 0 [(0, rf S 0), (1, .int x1), (2, .int x2)] [] := by
  unfold P_X10_rota at hP
  refine V_aload_n hX dX10_rota_0 0 rfl ?_
  refine V_iload_n hX dX10_rota_1 1 rfl ?_
  refine V_iload_n hX dX10_rota_2 2 rfl ?_
  refine V_iconst (v := 1) hX dX10_rota_3 (by decide) ?_
  obtain ⟨x4, w3, hcw3, hP⟩ := bnd_e hP
  refine V_callVi (As := [.int x1, .int x2, .int 1]) (rest := []) hX mk_X10_278 nk_X10_bestRota (fun l => c_X10_bestRota l S  hcw3) tb_0 rfl ⟨rfl, rfl, Nat.le_of_ble_eq_true rfl, Nat.le_of_ble_eq_true rfl⟩ rfl rfl (Nat.le_of_ble_eq_true rfl) dX10_rota_4 ?_
  exact hR _ _ _ _ (Option.some.inj hP) rfl dX10_rota_7
theorem c_X10_rota (l : Launch) (S : Sx) {r : Int32 × Wd} {F : Nat} {w : Wd} {x1 : Int32} {x2 : Int32}  (h : P_X10_rota F w x1 x2 = some r) : Met l yX10_rota (wsg yX10_rota cX10_rota 3 (some .int)) rm_X10_rota (PC S w [rf S 0, .int x1, .int x2]) (QCi S r) 0 0 (Aw S) :=
  met_i (by decide) rfl (Nat.le_of_ble_eq_true rfl) ⟨rfl, rfl⟩ (fun X hX hR => s_X10_rota  hX hR h)

-- MustNotStop.cheapest(II)I
abbrev rm_X10_cheapest : Room := { frames := 8, cells := 0, slots := 0, locals := 244 }
theorem nk_X10_cheapest : MNk yX10_cheapest RX10 2 := ⟨rfl, by decide, by decide, by decide +kernel⟩
def P_X10_cheapest (F : Nat) (w : Wd) (x1 : Int32) (x2 : Int32) : Option (Int32 × Wd) := bnd (P_X10_bestRota F w x1 x2 2) (fun x4 w3 => some (x4, w3))
set_option maxRecDepth 100000 in
set_option maxHeartbeats 4000000 in
theorem s_X10_cheapest {X : Cx} {S : Sx} {r : Int32 × Wd} {F : Nat} {w : Wd} {x1 : Int32} {x2 : Int32}  (hX : Ok X S cX10_cheapest RX10 3 rm_X10_cheapest) (hR : HRt X S cX10_cheapest .int r) (hP : P_X10_cheapest F w x1 x2 = some r) : V X S w 0 [(0, rf S 0), (1, .int x1), (2, .int x2)] [] := by
  unfold P_X10_cheapest at hP
  refine V_aload_n hX dX10_cheapest_0 0 rfl ?_
  refine V_iload_n hX dX10_cheapest_1 1 rfl ?_
  refine V_iload_n hX dX10_cheapest_2 2 rfl ?_
  refine V_iconst (v := 2) hX dX10_cheapest_3 (by decide) ?_
  obtain ⟨x4, w3, hcw3, hP⟩ := bnd_e hP
  refine V_callVi (As := [.int x1, .int x2, .int 2]) (rest := []) hX mk_X10_278 nk_X10_bestRota (fun l => c_X10_bestRota l S  hcw3) tb_0 rfl ⟨rfl, rfl, Nat.le_of_ble_eq_true rfl, Nat.le_of_ble_eq_true rfl⟩ rfl rfl (Nat.le_of_ble_eq_true rfl) dX10_cheapest_4 ?_
  exact hR _ _ _ _ (Option.some.inj hP) rfl dX10_cheapest_7
theorem c_X10_cheapest (l : Launch) (S : Sx) {r : Int32 × Wd} {F : Nat} {w : Wd} {x1 : Int32} {x2 : Int32}  (h : P_X10_cheapest F w x1 x2 = some r) : Met l yX10_cheapest (wsg yX10_cheapest cX10_cheapest 3 (some .int)) rm_X10_cheapest (PC S w [rf S 0, .int x1, .int x2]) (QCi S r) 0 0 (Aw S) :=
  met_i (by decide) rfl (Nat.le_of_ble_eq_true rfl) ⟨rfl, rfl⟩ (fun X hX hR => s_X10_cheapest  hX hR h)

-- MustNotStop.longest(I)I
abbrev rm_X10_longest : Room := { frames := 7, cells := 0, slots := 0, locals := 220 }
theorem nk_X10_longest : MNk yX10_longest RX10 1 := ⟨rfl, by decide, by decide, by decide +kernel⟩
def L_X10_longest_15 (F : Nat) (x1 : Int32) (k54 : Wd → Option (Int32 × Wd)) : Nat → Wd → Int32 → Option (Int32 × Wd)
  | 0, _, _ => none
  | n + 1, w, x4 => (if x4 < 1 then k54 w  else bnd (P_X6_search F w 5 23 x1 x4 0) (fun x7 w6 => (if x7 < 0 then lt (x4 + (-1) : Int32) (fun x9 => L_X10_longest_15 F x1 k54 n w6 x9) else bnv (P_X10_tellRota F w6 x1) (fun w10 => some (x4, w10)))))
set_option maxRecDepth 100000 in
set_option maxHeartbeats 4000000 in
theorem sL_X10_longest_15 {X : Cx} {S : Sx} {r : Int32 × Wd} {F : Nat} {x1 : Int32} {k54 : Wd → Option (Int32 × Wd)} (hX : Ok X S cX10_longest RX10 3 rm_X10_longest) (hR : HRt X S cX10_longest .int r)  (hk54 : ∀ (w : Wd), k54 w = some r → V X S w 54 [] []) : ∀ (n : Nat) (w : Wd) (x4 : Int32) , L_X10_longest_15 F x1 k54 n w x4 = some r → V X S w 15 [(0, rf S 0), (1, .int x1), (2, .int x4)] [] := by
  intro n
  induction n with
  | zero =>
    intro w x4  hP
    exact nn hP
  | succ n ih =>
    intro w x4  hP
    rw [L_X10_longest_15] at hP
    refine V_iload_n hX dX10_longest_15 2 rfl ?_
    refine V_iconst (v := 1) hX dX10_longest_16 (by decide) ?_
    refine V_icmp_lt (tgt := 54) hX dX10_longest_17 (by decide) (fun hc5 => ?_) (fun hc5 => ?_)
    · replace hP := ite_t hc5 hP
      refine V_sub (lv' := []) [] rfl ?_
      exact hk54 _   hP
    · replace hP := ite_f hc5 hP
      refine V_aload_n hX dX10_longest_20 0 rfl ?_
      refine V_getF (j := 62) hX fk_X10_86 tb_0 (fun _ _ _ => rfl) dX10_longest_21 ?_
      refine V_aload_n hX dX10_longest_24 0 rfl ?_
      refine V_getF (j := 5) hX fk_X10_34 tb_0 (fun _ _ _ => rfl) dX10_longest_25 ?_
      refine V_aload_n hX dX10_longest_28 0 rfl ?_
      refine V_getF (j := 23) hX fk_X10_58 tb_0 (fun _ _ _ => rfl) dX10_longest_29 ?_
      refine V_iload_n hX dX10_longest_32 1 rfl ?_
      refine V_iload_n hX dX10_longest_33 2 rfl ?_
      refine V_iconst (v := 0) hX dX10_longest_34 (by decide) ?_
      obtain ⟨x7, w6, hcw6, hP⟩ := bnd_e hP
      refine V_callVi (As := [rf S 5, rf S 23, .int x1, .int x4, .int 0]) (rest := []) hX mk_X10_282 nk_X6_search (fun l => c_X6_search l S (by decide) (by decide) hcw6) tb_62 rfl ⟨rfl, rfl, Nat.le_of_ble_eq_true rfl, Nat.le_of_ble_eq_true rfl⟩ rfl rfl (Nat.le_of_ble_eq_true rfl) dX10_longest_35 ?_
      refine V_if_lt (tgt := 48) hX dX10_longest_38 (by decide) (fun hc8 => ?_) (fun hc8 => ?_)
      · replace hP := ite_t hc8 hP
        obtain ⟨x9, ex9⟩ : ∃ y : Int32, y = x4 + (-1) := ⟨_, rfl⟩
        replace hP := lt_r ex9 hP
        refine V_iinc (v := x9) (lv' := [(2, .int x9), (0, rf S 0), (1, .int x1)]) hX dX10_longest_48 (j := 2) rfl (by decide) (by rw [ex9]; rfl) rfl ?_
        refine V_goto (tgt := 15) hX dX10_longest_51 (by decide) ?_
        refine V_sub (lv' := [(0, rf S 0), (1, .int x1), (2, .int x9)]) [1, 2, 0] rfl ?_
        exact ih _ _  hP
      · replace hP := ite_f hc8 hP
        refine V_aload_n hX dX10_longest_41 0 rfl ?_
        refine V_iload_n hX dX10_longest_42 1 rfl ?_
        obtain ⟨w10, hcw10, hP⟩ := bnv_e hP
        refine V_callVv (As := [.int x1]) (rest := []) hX mk_X10_286 nk_X10_tellRota (fun l => c_X10_tellRota l S  hcw10) tb_0 rfl ⟨rfl, rfl, Nat.le_of_ble_eq_true rfl, Nat.le_of_ble_eq_true rfl⟩ rfl rfl (Nat.le_of_ble_eq_true rfl) dX10_longest_43 ?_
        refine V_iload_n hX dX10_longest_46 2 rfl ?_
        exact hR _ _ _ _ (Option.some.inj hP) rfl dX10_longest_47
def P_X10_longest (F : Nat) (w : Wd) (x1 : Int32) : Option (Int32 × Wd) := (if x1 < 1 then some ((-1), w) else (if x1 ≤ 3 then L_X10_longest_15 F x1 (fun w  => some ((-2), w)) F w 20 else some ((-1), w)))
set_option maxRecDepth 100000 in
set_option maxHeartbeats 4000000 in
theorem s_X10_longest {X : Cx} {S : Sx} {r : Int32 × Wd} {F : Nat} {w : Wd} {x1 : Int32}  (hX : Ok X S cX10_longest RX10 3 rm_X10_longest) (hR : HRt X S cX10_longest .int r) (hP : P_X10_longest F w x1 = some r) : V X S w 0 [(0, rf S 0), (1, .int x1)] [] := by
  unfold P_X10_longest at hP
  refine V_iload_n hX dX10_longest_0 1 rfl ?_
  refine V_iconst (v := 1) hX dX10_longest_1 (by decide) ?_
  refine V_icmp_lt (tgt := 10) hX dX10_longest_2 (by decide) (fun hc2 => ?_) (fun hc2 => ?_)
  · replace hP := ite_t hc2 hP
    refine V_iconst (v := (-1)) hX dX10_longest_10 (by decide) ?_
    exact hR _ _ _ _ (Option.some.inj hP) rfl dX10_longest_11
  · replace hP := ite_f hc2 hP
    refine V_iload_n hX dX10_longest_5 1 rfl ?_
    refine V_iconst (v := 3) hX dX10_longest_6 (by decide) ?_
    refine V_icmp_le (tgt := 12) hX dX10_longest_7 (by decide) (fun hc3 => ?_) (fun hc3 => ?_)
    · replace hP := ite_t hc3 hP
      refine V_bipush (v := 20) hX dX10_longest_12 (by decide) ?_
      refine V_istore_n (lv' := [(2, .int 20), (0, rf S 0), (1, .int x1)]) hX dX10_longest_14 (by decide) rfl ?_
      refine V_sub (lv' := [(0, rf S 0), (1, .int x1), (2, .int 20)]) [1, 2, 0] rfl ?_
      have k11 : ∀ (w : Wd)  , (some ((-2), w)) = some r → V X S w 54 [] [] := by
        intro w   hP
        refine V_bipush (v := (-2)) hX dX10_longest_54 (by decide) ?_
        exact hR _ _ _ _ (Option.some.inj hP) rfl dX10_longest_56
      exact sL_X10_longest_15 hX hR  k11 F _ _  hP
    · replace hP := ite_f hc3 hP
      refine V_iconst (v := (-1)) hX dX10_longest_10 (by decide) ?_
      exact hR _ _ _ _ (Option.some.inj hP) rfl dX10_longest_11
theorem c_X10_longest (l : Launch) (S : Sx) {r : Int32 × Wd} {F : Nat} {w : Wd} {x1 : Int32}  (h : P_X10_longest F w x1 = some r) : Met l yX10_longest (wsg yX10_longest cX10_longest 3 (some .int)) rm_X10_longest (PC S w [rf S 0, .int x1]) (QCi S r) 0 0 (Aw S) :=
  met_i (by decide) rfl (Nat.le_of_ble_eq_true rfl) ⟨rfl, rfl⟩ (fun X hX hR => s_X10_longest  hX hR h)

-- MustNotStop.change(I)I
abbrev rm_X10_change : Room := { frames := 5, cells := 0, slots := 0, locals := 165 }
theorem nk_X10_change : MNk yX10_change RX10 1 := ⟨rfl, by decide, by decide, by decide +kernel⟩
def L_X10_change_25 (F : Nat) (x1 : Int32) (k88 : Wd → Option (Int32 × Wd)) : Nat → Wd → Int32 → Option (Int32 × Wd)
  | 0, _, _ => none
  | n + 1, w, x5 => (if (999 : Int32) < x5 then k88 w  else (if (gI w 5 5) < (gI w 25 5) then some (x5, w) else (if (gI w 5 5) < ((gI w 25 5) + x1) then bnd (P_X9_ring F w 5 25) (fun x10 w9 => lt (x5 + 1 : Int32) (fun x11 => L_X10_change_25 F x1 k88 n w9 x11)) else some (x5, w))))
set_option maxRecDepth 100000 in
set_option maxHeartbeats 4000000 in
theorem sL_X10_change_25 {X : Cx} {S : Sx} {r : Int32 × Wd} {F : Nat} {x1 : Int32} {k88 : Wd → Option (Int32 × Wd)} (hX : Ok X S cX10_change RX10 3 rm_X10_change) (hR : HRt X S cX10_change .int r)  (hk88 : ∀ (w : Wd), k88 w = some r → V X S w 88 [] []) : ∀ (n : Nat) (w : Wd) (x5 : Int32) , L_X10_change_25 F x1 k88 n w x5 = some r → V X S w 25 [(0, rf S 0), (1, .int x1), (2, .int x5)] [] := by
  intro n
  induction n with
  | zero =>
    intro w x5  hP
    exact nn hP
  | succ n ih =>
    intro w x5  hP
    rw [L_X10_change_25] at hP
    refine V_iload_n hX dX10_change_25 2 rfl ?_
    refine V_sipush (v := 999) hX dX10_change_26 (by decide) ?_
    refine V_icmp_gt (tgt := 88) hX dX10_change_29 (by decide) (fun hc6 => ?_) (fun hc6 => ?_)
    · replace hP := ite_t hc6 hP
      refine V_sub (lv' := []) [] rfl ?_
      exact hk88 _   hP
    · replace hP := ite_f hc6 hP
      refine V_aload_n hX dX10_change_32 0 rfl ?_
      refine V_getF (j := 25) hX fk_X10_62 tb_0 (fun _ _ _ => rfl) dX10_change_33 ?_
      refine V_getI hX fk_X10_260 tb_25 (fun _ _ _ => rfl) dX10_change_36 ?_
      refine V_aload_n hX dX10_change_39 0 rfl ?_
      refine V_getF (j := 5) hX fk_X10_34 tb_0 (fun _ _ _ => rfl) dX10_change_40 ?_
      refine V_getI hX fk_X10_157 tb_5 (fun _ _ _ => rfl) dX10_change_43 ?_
      refine V_icmp_gt (tgt := 68) hX dX10_change_46 (by decide) (fun hc7 => ?_) (fun hc7 => ?_)
      · replace hP := ite_t hc7 hP
        refine V_iload_n hX dX10_change_68 2 rfl ?_
        exact hR _ _ _ _ (Option.some.inj hP) rfl dX10_change_69
      · replace hP := ite_f hc7 hP
        refine V_aload_n hX dX10_change_49 0 rfl ?_
        refine V_getF (j := 25) hX fk_X10_62 tb_0 (fun _ _ _ => rfl) dX10_change_50 ?_
        refine V_getI hX fk_X10_260 tb_25 (fun _ _ _ => rfl) dX10_change_53 ?_
        refine V_iload_n hX dX10_change_56 1 rfl ?_
        refine V_iadd hX dX10_change_57 ?_
        refine V_aload_n hX dX10_change_58 0 rfl ?_
        refine V_getF (j := 5) hX fk_X10_34 tb_0 (fun _ _ _ => rfl) dX10_change_59 ?_
        refine V_getI hX fk_X10_157 tb_5 (fun _ _ _ => rfl) dX10_change_62 ?_
        refine V_icmp_gt (tgt := 70) hX dX10_change_65 (by decide) (fun hc8 => ?_) (fun hc8 => ?_)
        · replace hP := ite_t hc8 hP
          refine V_aload_n hX dX10_change_70 0 rfl ?_
          refine V_getF (j := 5) hX fk_X10_34 tb_0 (fun _ _ _ => rfl) dX10_change_71 ?_
          refine V_aload_n hX dX10_change_74 0 rfl ?_
          refine V_getF (j := 25) hX fk_X10_62 tb_0 (fun _ _ _ => rfl) dX10_change_75 ?_
          obtain ⟨x10, w9, hcw9, hP⟩ := bnd_e hP
          refine V_callVi (As := [rf S 25]) (rest := []) hX mk_X10_253 nk_X9_ring (fun l => c_X9_ring l S (by decide) (by decide) hcw9) tb_5 rfl ⟨rfl, rfl, Nat.le_of_ble_eq_true rfl, Nat.le_of_ble_eq_true rfl⟩ rfl rfl (Nat.le_of_ble_eq_true rfl) dX10_change_78 ?_
          refine V_pop hX dX10_change_81 rfl ?_
          obtain ⟨x11, ex11⟩ : ∃ y : Int32, y = x5 + 1 := ⟨_, rfl⟩
          replace hP := lt_r ex11 hP
          refine V_iinc (v := x11) (lv' := [(2, .int x11), (0, rf S 0), (1, .int x1)]) hX dX10_change_82 (j := 2) rfl (by decide) (by rw [ex11]; rfl) rfl ?_
          refine V_goto (tgt := 25) hX dX10_change_85 (by decide) ?_
          refine V_sub (lv' := [(0, rf S 0), (1, .int x1), (2, .int x11)]) [1, 2, 0] rfl ?_
          exact ih _ _  hP
        · replace hP := ite_f hc8 hP
          refine V_iload_n hX dX10_change_68 2 rfl ?_
          exact hR _ _ _ _ (Option.some.inj hP) rfl dX10_change_69
def P_X10_change (F : Nat) (w : Wd) (x1 : Int32) : Option (Int32 × Wd) := (if x1 < 0 then some ((-1), w) else (if x1 ≤ 30 then bnv (P_X1_copy F w 25 23) (fun w4 => L_X10_change_25 F x1 (fun w  => some ((-2), w)) F w4 0) else some ((-1), w)))
set_option maxRecDepth 100000 in
set_option maxHeartbeats 4000000 in
theorem s_X10_change {X : Cx} {S : Sx} {r : Int32 × Wd} {F : Nat} {w : Wd} {x1 : Int32}  (hX : Ok X S cX10_change RX10 3 rm_X10_change) (hR : HRt X S cX10_change .int r) (hP : P_X10_change F w x1 = some r) : V X S w 0 [(0, rf S 0), (1, .int x1)] [] := by
  unfold P_X10_change at hP
  refine V_iload_n hX dX10_change_0 1 rfl ?_
  refine V_if_lt (tgt := 10) hX dX10_change_1 (by decide) (fun hc2 => ?_) (fun hc2 => ?_)
  · replace hP := ite_t hc2 hP
    refine V_iconst (v := (-1)) hX dX10_change_10 (by decide) ?_
    exact hR _ _ _ _ (Option.some.inj hP) rfl dX10_change_11
  · replace hP := ite_f hc2 hP
    refine V_iload_n hX dX10_change_4 1 rfl ?_
    refine V_bipush (v := 30) hX dX10_change_5 (by decide) ?_
    refine V_icmp_le (tgt := 12) hX dX10_change_7 (by decide) (fun hc3 => ?_) (fun hc3 => ?_)
    · replace hP := ite_t hc3 hP
      refine V_aload_n hX dX10_change_12 0 rfl ?_
      refine V_getF (j := 25) hX fk_X10_62 tb_0 (fun _ _ _ => rfl) dX10_change_13 ?_
      refine V_aload_n hX dX10_change_16 0 rfl ?_
      refine V_getF (j := 23) hX fk_X10_58 tb_0 (fun _ _ _ => rfl) dX10_change_17 ?_
      obtain ⟨w4, hcw4, hP⟩ := bnv_e hP
      refine V_callVv (As := [rf S 23]) (rest := []) hX mk_X10_180 nk_X1_copy (fun l => c_X1_copy l S (by decide) (by decide) hcw4) tb_25 rfl ⟨rfl, rfl, Nat.le_of_ble_eq_true rfl, Nat.le_of_ble_eq_true rfl⟩ rfl rfl (Nat.le_of_ble_eq_true rfl) dX10_change_20 ?_
      refine V_iconst (v := 0) hX dX10_change_23 (by decide) ?_
      refine V_istore_n (lv' := [(2, .int 0), (0, rf S 0), (1, .int x1)]) hX dX10_change_24 (by decide) rfl ?_
      refine V_sub (lv' := [(0, rf S 0), (1, .int x1), (2, .int 0)]) [1, 2, 0] rfl ?_
      have k12 : ∀ (w : Wd)  , (some ((-2), w)) = some r → V X S w 88 [] [] := by
        intro w   hP
        refine V_bipush (v := (-2)) hX dX10_change_88 (by decide) ?_
        exact hR _ _ _ _ (Option.some.inj hP) rfl dX10_change_90
      exact sL_X10_change_25 hX hR  k12 F _ _  hP
    · replace hP := ite_f hc3 hP
      refine V_iconst (v := (-1)) hX dX10_change_10 (by decide) ?_
      exact hR _ _ _ _ (Option.some.inj hP) rfl dX10_change_11
theorem c_X10_change (l : Launch) (S : Sx) {r : Int32 × Wd} {F : Nat} {w : Wd} {x1 : Int32}  (h : P_X10_change F w x1 = some r) : Met l yX10_change (wsg yX10_change cX10_change 3 (some .int)) rm_X10_change (PC S w [rf S 0, .int x1]) (QCi S r) 0 0 (Aw S) :=
  met_i (by decide) rfl (Nat.le_of_ble_eq_true rfl) ⟨rfl, rfl⟩ (fun X hX hR => s_X10_change  hX hR h)

-- MustNotStop.doubts(I)I
abbrev rm_X10_doubts : Room := { frames := 5, cells := 0, slots := 0, locals := 153 }
theorem nk_X10_doubts : MNk yX10_doubts RX10 1 := ⟨rfl, by decide, by decide, by decide +kernel⟩
def P_X10_doubts (F : Nat) (w : Wd) (x1 : Int32) : Option (Int32 × Wd) := (if x1 < 0 then some ((-1), w) else (if x1 ≤ 9 then bnd (P_X5_hearing F w 9 x1) (fun x5 w4 => bnd (P_X5_persuadedBy F w4 9 ((gI w4 23 8) ||| x5)) (fun x7 w6 => bnd (P_J6_bitCount_0f7a4 F w6 x7) (fun x9 w8 => bnd (P_J6_bitCount_0f7a4 F w8 x5) (fun x11 w10 => bnv (P_X10_tell_ F w10 (Int32.toInt64 x9) (Int32.toInt64 x11)) (fun w12 => some (x7, w12)))))) else some ((-1), w)))
set_option maxRecDepth 100000 in
set_option maxHeartbeats 4000000 in
theorem s_X10_doubts {X : Cx} {S : Sx} {r : Int32 × Wd} {F : Nat} {w : Wd} {x1 : Int32}  (hX : Ok X S cX10_doubts RX10 4 rm_X10_doubts) (hR : HRt X S cX10_doubts .int r) (hP : P_X10_doubts F w x1 = some r) : V X S w 0 [(0, rf S 0), (1, .int x1)] [] := by
  unfold P_X10_doubts at hP
  refine V_iload_n hX dX10_doubts_0 1 rfl ?_
  refine V_if_lt (tgt := 10) hX dX10_doubts_1 (by decide) (fun hc2 => ?_) (fun hc2 => ?_)
  · replace hP := ite_t hc2 hP
    refine V_iconst (v := (-1)) hX dX10_doubts_10 (by decide) ?_
    exact hR _ _ _ _ (Option.some.inj hP) rfl dX10_doubts_11
  · replace hP := ite_f hc2 hP
    refine V_iload_n hX dX10_doubts_4 1 rfl ?_
    refine V_bipush (v := 9) hX dX10_doubts_5 (by decide) ?_
    refine V_icmp_le (tgt := 12) hX dX10_doubts_7 (by decide) (fun hc3 => ?_) (fun hc3 => ?_)
    · replace hP := ite_t hc3 hP
      refine V_aload_n hX dX10_doubts_12 0 rfl ?_
      refine V_getF (j := 5) hX fk_X10_34 tb_0 (fun _ _ _ => rfl) dX10_doubts_13 ?_
      refine V_getF (j := 9) hX fk_X10_42 tb_5 (fun _ _ _ => rfl) dX10_doubts_16 ?_
      refine V_iload_n hX dX10_doubts_19 1 rfl ?_
      obtain ⟨x5, w4, hcw4, hP⟩ := bnd_e hP
      refine V_callVi (As := [.int x1]) (rest := []) hX mk_X10_295 nk_X5_hearing (fun l => c_X5_hearing l S (by decide) hcw4) tb_9 rfl ⟨rfl, rfl, Nat.le_of_ble_eq_true rfl, Nat.le_of_ble_eq_true rfl⟩ rfl rfl (Nat.le_of_ble_eq_true rfl) dX10_doubts_20 ?_
      refine V_istore_n (lv' := [(2, .int x5), (0, rf S 0), (1, .int x1)]) hX dX10_doubts_23 (by decide) rfl ?_
      refine V_aload_n hX dX10_doubts_24 1 rfl ?_
      refine V_getF (j := 5) hX fk_X10_34 tb_0 (fun _ _ _ => rfl) dX10_doubts_25 ?_
      refine V_getF (j := 9) hX fk_X10_42 tb_5 (fun _ _ _ => rfl) dX10_doubts_28 ?_
      refine V_aload_n hX dX10_doubts_31 1 rfl ?_
      refine V_getF (j := 23) hX fk_X10_58 tb_0 (fun _ _ _ => rfl) dX10_doubts_32 ?_
      refine V_getI hX fk_X10_145 tb_23 (fun _ _ _ => rfl) dX10_doubts_35 ?_
      refine V_iload_n hX dX10_doubts_38 0 rfl ?_
      refine V_ior hX dX10_doubts_39 ?_
      obtain ⟨x7, w6, hcw6, hP⟩ := bnd_e hP
      refine V_callVi (As := [.int ((gI w4 23 8) ||| x5)]) (rest := []) hX mk_X10_298 nk_X5_persuadedBy (fun l => c_X5_persuadedBy l S (by decide) hcw6) tb_9 rfl ⟨rfl, rfl, Nat.le_of_ble_eq_true rfl, Nat.le_of_ble_eq_true rfl⟩ rfl rfl (Nat.le_of_ble_eq_true rfl) dX10_doubts_40 ?_
      refine V_istore_n (lv' := [(3, .int x7), (2, .int x5), (0, rf S 0), (1, .int x1)]) hX dX10_doubts_43 (by decide) rfl ?_
      refine V_aload_n hX dX10_doubts_44 2 rfl ?_
      refine V_iload_n hX dX10_doubts_45 0 rfl ?_
      obtain ⟨x9, w8, hcw8, hP⟩ := bnd_e hP
      refine V_callSi (As := [.int x7]) (rest := [rf S 0]) hX mk_X10_228 nk_J6_bitCount_0f7a4 (fun l => c_J6_bitCount_0f7a4 l S  hcw8) ⟨rfl, rfl, Nat.le_of_ble_eq_true rfl, Nat.le_of_ble_eq_true rfl⟩ rfl rfl (Nat.le_of_ble_eq_true rfl) dX10_doubts_46 ?_
      refine V_i2l hX dX10_doubts_49 ?_
      refine V_iload_n hX dX10_doubts_50 1 rfl ?_
      obtain ⟨x11, w10, hcw10, hP⟩ := bnd_e hP
      refine V_callSi (As := [.int x5]) (rest := [.long (Int32.toInt64 x9), rf S 0]) hX mk_X10_228 nk_J6_bitCount_0f7a4 (fun l => c_J6_bitCount_0f7a4 l S  hcw10) ⟨rfl, rfl, Nat.le_of_ble_eq_true rfl, Nat.le_of_ble_eq_true rfl⟩ rfl rfl (Nat.le_of_ble_eq_true rfl) dX10_doubts_51 ?_
      refine V_i2l hX dX10_doubts_54 ?_
      obtain ⟨w12, hcw12, hP⟩ := bnv_e hP
      refine V_callVv (As := [.long (Int32.toInt64 x9), .long (Int32.toInt64 x11)]) (rest := []) hX mk_X10_202 nk_X10_tell_ (fun l => c_X10_tell_ l S  hcw12) tb_0 rfl ⟨rfl, rfl, Nat.le_of_ble_eq_true rfl, Nat.le_of_ble_eq_true rfl⟩ rfl rfl (Nat.le_of_ble_eq_true rfl) dX10_doubts_55 ?_
      refine V_iload_n hX dX10_doubts_58 0 rfl ?_
      exact hR _ _ _ _ (Option.some.inj hP) rfl dX10_doubts_59
    · replace hP := ite_f hc3 hP
      refine V_iconst (v := (-1)) hX dX10_doubts_10 (by decide) ?_
      exact hR _ _ _ _ (Option.some.inj hP) rfl dX10_doubts_11
theorem c_X10_doubts (l : Launch) (S : Sx) {r : Int32 × Wd} {F : Nat} {w : Wd} {x1 : Int32}  (h : P_X10_doubts F w x1 = some r) : Met l yX10_doubts (wsg yX10_doubts cX10_doubts 4 (some .int)) rm_X10_doubts (PC S w [rf S 0, .int x1]) (QCi S r) 0 0 (Aw S) :=
  met_i (by decide) rfl (Nat.le_of_ble_eq_true rfl) ⟨rfl, rfl⟩ (fun X hX hR => s_X10_doubts  hX hR h)

-- MustNotStop.frees()I
abbrev rm_X10_frees : Room := { frames := 5, cells := 0, slots := 0, locals := 153 }
theorem nk_X10_frees : MNk yX10_frees RX10 0 := ⟨rfl, by decide, by decide, by decide +kernel⟩
def L_X10_frees_2 (F : Nat)  (k58 : Wd → Option (Int32 × Wd)) : Nat → Wd → Int32 → Option (Int32 × Wd)
  | 0, _, _ => none
  | n + 1, w, x1 => (if (9 : Int32) < x1 then k58 w  else bnd (P_X5_hearing F w 9 x1) (fun x4 w3 => bnd (P_X5_persuadedBy F w3 9 ((gI w 23 8) ||| x4)) (fun x6 w5 => bnd (P_X5_all F w5 9) (fun x8 w7 => (if x6 = x8 then some (x1, w7) else lt (x1 + 1 : Int32) (fun x10 => L_X10_frees_2 F  k58 n w7 x10))))))
set_option maxRecDepth 100000 in
set_option maxHeartbeats 4000000 in
theorem sL_X10_frees_2 {X : Cx} {S : Sx} {r : Int32 × Wd} {F : Nat}  {k58 : Wd → Option (Int32 × Wd)} (hX : Ok X S cX10_frees RX10 2 rm_X10_frees) (hR : HRt X S cX10_frees .int r)  (hk58 : ∀ (w : Wd), k58 w = some r → V X S w 58 [] []) : ∀ (n : Nat) (w : Wd) (x1 : Int32) , L_X10_frees_2 F  k58 n w x1 = some r → V X S w 2 [(0, rf S 0), (1, .int x1)] [] := by
  intro n
  induction n with
  | zero =>
    intro w x1  hP
    exact nn hP
  | succ n ih =>
    intro w x1  hP
    rw [L_X10_frees_2] at hP
    refine V_iload_n hX dX10_frees_2 1 rfl ?_
    refine V_bipush (v := 9) hX dX10_frees_3 (by decide) ?_
    refine V_icmp_gt (tgt := 58) hX dX10_frees_5 (by decide) (fun hc2 => ?_) (fun hc2 => ?_)
    · replace hP := ite_t hc2 hP
      refine V_sub (lv' := []) [] rfl ?_
      exact hk58 _   hP
    · replace hP := ite_f hc2 hP
      refine V_aload_n hX dX10_frees_8 0 rfl ?_
      refine V_getF (j := 5) hX fk_X10_34 tb_0 (fun _ _ _ => rfl) dX10_frees_9 ?_
      refine V_getF (j := 9) hX fk_X10_42 tb_5 (fun _ _ _ => rfl) dX10_frees_12 ?_
      refine V_aload_n hX dX10_frees_15 0 rfl ?_
      refine V_getF (j := 23) hX fk_X10_58 tb_0 (fun _ _ _ => rfl) dX10_frees_16 ?_
      refine V_getI hX fk_X10_145 tb_23 (fun _ _ _ => rfl) dX10_frees_19 ?_
      refine V_aload_n hX dX10_frees_22 0 rfl ?_
      refine V_getF (j := 5) hX fk_X10_34 tb_0 (fun _ _ _ => rfl) dX10_frees_23 ?_
      refine V_getF (j := 9) hX fk_X10_42 tb_5 (fun _ _ _ => rfl) dX10_frees_26 ?_
      refine V_iload_n hX dX10_frees_29 1 rfl ?_
      obtain ⟨x4, w3, hcw3, hP⟩ := bnd_e hP
      refine V_callVi (As := [.int x1]) (rest := [.int (gI w 23 8), rf S 9]) hX mk_X10_295 nk_X5_hearing (fun l => c_X5_hearing l S (by decide) hcw3) tb_9 rfl ⟨rfl, rfl, Nat.le_of_ble_eq_true rfl, Nat.le_of_ble_eq_true rfl⟩ rfl rfl (Nat.le_of_ble_eq_true rfl) dX10_frees_30 ?_
      refine V_ior hX dX10_frees_33 ?_
      obtain ⟨x6, w5, hcw5, hP⟩ := bnd_e hP
      refine V_callVi (As := [.int ((gI w 23 8) ||| x4)]) (rest := []) hX mk_X10_298 nk_X5_persuadedBy (fun l => c_X5_persuadedBy l S (by decide) hcw5) tb_9 rfl ⟨rfl, rfl, Nat.le_of_ble_eq_true rfl, Nat.le_of_ble_eq_true rfl⟩ rfl rfl (Nat.le_of_ble_eq_true rfl) dX10_frees_34 ?_
      refine V_aload_n hX dX10_frees_37 0 rfl ?_
      refine V_getF (j := 5) hX fk_X10_34 tb_0 (fun _ _ _ => rfl) dX10_frees_38 ?_
      refine V_getF (j := 9) hX fk_X10_42 tb_5 (fun _ _ _ => rfl) dX10_frees_41 ?_
      obtain ⟨x8, w7, hcw7, hP⟩ := bnd_e hP
      refine V_callVi (As := []) (rest := [.int x6]) hX mk_X10_272 nk_X5_all (fun l => c_X5_all l S (by decide) hcw7) tb_9 rfl ⟨rfl, rfl, Nat.le_of_ble_eq_true rfl, Nat.le_of_ble_eq_true rfl⟩ rfl rfl (Nat.le_of_ble_eq_true rfl) dX10_frees_44 ?_
      refine V_icmp_ne (tgt := 52) hX dX10_frees_47 (by decide) (fun hc9 => ?_) (fun hc9 => ?_)
      · replace hP := ite_f hc9 hP
        obtain ⟨x10, ex10⟩ : ∃ y : Int32, y = x1 + 1 := ⟨_, rfl⟩
        replace hP := lt_r ex10 hP
        refine V_iinc (v := x10) (lv' := [(1, .int x10), (0, rf S 0)]) hX dX10_frees_52 (j := 1) rfl (by decide) (by rw [ex10]; rfl) rfl ?_
        refine V_goto (tgt := 2) hX dX10_frees_55 (by decide) ?_
        refine V_sub (lv' := [(0, rf S 0), (1, .int x10)]) [1, 0] rfl ?_
        exact ih _ _  hP
      · replace hP := ite_t hc9 hP
        refine V_iload_n hX dX10_frees_50 1 rfl ?_
        exact hR _ _ _ _ (Option.some.inj hP) rfl dX10_frees_51
def P_X10_frees (F : Nat) (w : Wd)  : Option (Int32 × Wd) := L_X10_frees_2 F  (fun w  => some ((-2), w)) F w 0
set_option maxRecDepth 100000 in
set_option maxHeartbeats 4000000 in
theorem s_X10_frees {X : Cx} {S : Sx} {r : Int32 × Wd} {F : Nat} {w : Wd}   (hX : Ok X S cX10_frees RX10 2 rm_X10_frees) (hR : HRt X S cX10_frees .int r) (hP : P_X10_frees F w  = some r) : V X S w 0 [(0, rf S 0)] [] := by
  unfold P_X10_frees at hP
  refine V_iconst (v := 0) hX dX10_frees_0 (by decide) ?_
  refine V_istore_n (lv' := [(1, .int 0), (0, rf S 0)]) hX dX10_frees_1 (by decide) rfl ?_
  refine V_sub (lv' := [(0, rf S 0), (1, .int 0)]) [1, 0] rfl ?_
  have k11 : ∀ (w : Wd)  , (some ((-2), w)) = some r → V X S w 58 [] [] := by
    intro w   hP
    refine V_bipush (v := (-2)) hX dX10_frees_58 (by decide) ?_
    exact hR _ _ _ _ (Option.some.inj hP) rfl dX10_frees_60
  exact sL_X10_frees_2 hX hR  k11 F _ _  hP
theorem c_X10_frees (l : Launch) (S : Sx) {r : Int32 × Wd} {F : Nat} {w : Wd}   (h : P_X10_frees F w  = some r) : Met l yX10_frees (wsg yX10_frees cX10_frees 2 (some .int)) rm_X10_frees (PC S w [rf S 0]) (QCi S r) 0 0 (Aw S) :=
  met_i (by decide) rfl (Nat.le_of_ble_eq_true rfl) ⟨rfl, rfl⟩ (fun X hX hR => s_X10_frees  hX hR h)

-- MustNotStop.persuade()I
abbrev rm_X10_persuade : Room := { frames := 5, cells := 0, slots := 0, locals := 153 }
theorem nk_X10_persuade : MNk yX10_persuade RX10 0 := ⟨rfl, by decide, by decide, by decide +kernel⟩
def K_X10_persuade_82 (F : Nat)  (k88 : Wd → Int32 → Option (Int32 × Wd)) (rc : Wd → Int32 → Int32 → Option (Int32 × Wd)) (w : Wd) (x16 : Int32) (x17 : Int32) : Option (Int32 × Wd) := lt (x17 + 1 : Int32) (fun x18 => rc w x16 x18)
set_option maxRecDepth 100000 in
set_option maxHeartbeats 4000000 in
theorem sK_X10_persuade_82 {X : Cx} {S : Sx} {r : Int32 × Wd} {F : Nat}  {k88 : Wd → Int32 → Option (Int32 × Wd)} {rc : Wd → Int32 → Int32 → Option (Int32 × Wd)} {w : Wd} {x16 : Int32} {x17 : Int32} (hX : Ok X S cX10_persuade RX10 4 rm_X10_persuade) (hR : HRt X S cX10_persuade .int r)  (hk88 : ∀ (w : Wd) (x5 : Int32) , k88 w x5 = some r → V X S w 88 [(0, rf S 0), (1, .int x5)] []) (hrc : ∀ (w : Wd) (x3 : Int32) (x4 : Int32) , rc w x3 x4 = some r → V X S w 13 [(0, rf S 0), (1, .int x3), (2, .int x4)] [])  (hP : K_X10_persuade_82 F  k88 rc w x16 x17 = some r) : V X S w 82 [(0, rf S 0), (1, .int x16), (2, .int x17)] [] := by
  unfold K_X10_persuade_82 at hP
  obtain ⟨x18, ex18⟩ : ∃ y : Int32, y = x17 + 1 := ⟨_, rfl⟩
  replace hP := lt_r ex18 hP
  refine V_iinc (v := x18) (lv' := [(2, .int x18), (0, rf S 0), (1, .int x16)]) hX dX10_persuade_82 (j := 2) rfl (by decide) (by rw [ex18]; rfl) rfl ?_
  refine V_goto (tgt := 13) hX dX10_persuade_85 (by decide) ?_
  refine V_sub (lv' := [(0, rf S 0), (1, .int x16), (2, .int x18)]) [1, 2, 0] rfl ?_
  exact hrc _ _ _  hP
def L_X10_persuade_13 (F : Nat)  (k88 : Wd → Int32 → Option (Int32 × Wd)) : Nat → Wd → Int32 → Int32 → Option (Int32 × Wd)
  | 0, _, _, _ => none
  | n + 1, w, x3, x4 => bnd (P_X5_all F w 9) (fun x7 w6 => (if x7 < x4 then k88 w6 x3 else bnd (P_J6_bitCount_0f7a4 F w6 x4) (fun x10 w9 => bnd (P_J6_bitCount_0f7a4 F w9 x3) (fun x12 w11 => lt (if x12 ≤ x10 then 0 else 1 : Int32) (fun x14 => (if x14 = 0 then K_X10_persuade_82 F  k88 ((L_X10_persuade_13 F  k88 n)) w11 x3 x4 else bnd (P_X5_persuadedBy F w11 9 ((gI w11 23 8) ||| x4)) (fun x20 w19 => bnd (P_X5_all F w19 9) (fun x22 w21 => (if x20 = x22 then K_X10_persuade_82 F  k88 ((L_X10_persuade_13 F  k88 n)) w21 x4 x4 else K_X10_persuade_82 F  k88 ((L_X10_persuade_13 F  k88 n)) w21 x3 x4)))))))))
set_option maxRecDepth 100000 in
set_option maxHeartbeats 4000000 in
theorem sL_X10_persuade_13 {X : Cx} {S : Sx} {r : Int32 × Wd} {F : Nat}  {k88 : Wd → Int32 → Option (Int32 × Wd)} (hX : Ok X S cX10_persuade RX10 4 rm_X10_persuade) (hR : HRt X S cX10_persuade .int r)  (hk88 : ∀ (w : Wd) (x5 : Int32) , k88 w x5 = some r → V X S w 88 [(0, rf S 0), (1, .int x5)] []) : ∀ (n : Nat) (w : Wd) (x3 : Int32) (x4 : Int32) , L_X10_persuade_13 F  k88 n w x3 x4 = some r → V X S w 13 [(0, rf S 0), (1, .int x3), (2, .int x4)] [] := by
  intro n
  induction n with
  | zero =>
    intro w x3 x4  hP
    exact nn hP
  | succ n ih =>
    intro w x3 x4  hP
    rw [L_X10_persuade_13] at hP
    refine V_iload_n hX dX10_persuade_13 2 rfl ?_
    refine V_aload_n hX dX10_persuade_14 0 rfl ?_
    refine V_getF (j := 5) hX fk_X10_34 tb_0 (fun _ _ _ => rfl) dX10_persuade_15 ?_
    refine V_getF (j := 9) hX fk_X10_42 tb_5 (fun _ _ _ => rfl) dX10_persuade_18 ?_
    obtain ⟨x7, w6, hcw6, hP⟩ := bnd_e hP
    refine V_callVi (As := []) (rest := [.int x4]) hX mk_X10_272 nk_X5_all (fun l => c_X5_all l S (by decide) hcw6) tb_9 rfl ⟨rfl, rfl, Nat.le_of_ble_eq_true rfl, Nat.le_of_ble_eq_true rfl⟩ rfl rfl (Nat.le_of_ble_eq_true rfl) dX10_persuade_21 ?_
    refine V_icmp_gt (tgt := 88) hX dX10_persuade_24 (by decide) (fun hc8 => ?_) (fun hc8 => ?_)
    · replace hP := ite_t hc8 hP
      refine V_sub (lv' := [(0, rf S 0), (1, .int x3)]) [0, 1] rfl ?_
      exact hk88 _ _  hP
    · replace hP := ite_f hc8 hP
      refine V_iload_n hX dX10_persuade_27 2 rfl ?_
      obtain ⟨x10, w9, hcw9, hP⟩ := bnd_e hP
      refine V_callSi (As := [.int x4]) (rest := []) hX mk_X10_228 nk_J6_bitCount_0f7a4 (fun l => c_J6_bitCount_0f7a4 l S  hcw9) ⟨rfl, rfl, Nat.le_of_ble_eq_true rfl, Nat.le_of_ble_eq_true rfl⟩ rfl rfl (Nat.le_of_ble_eq_true rfl) dX10_persuade_28 ?_
      refine V_iload_n hX dX10_persuade_31 1 rfl ?_
      obtain ⟨x12, w11, hcw11, hP⟩ := bnd_e hP
      refine V_callSi (As := [.int x3]) (rest := [.int x10]) hX mk_X10_228 nk_J6_bitCount_0f7a4 (fun l => c_J6_bitCount_0f7a4 l S  hcw11) ⟨rfl, rfl, Nat.le_of_ble_eq_true rfl, Nat.le_of_ble_eq_true rfl⟩ rfl rfl (Nat.le_of_ble_eq_true rfl) dX10_persuade_32 ?_
      have k24 : V X S w11 43 [(0, rf S 0), (1, .int x3), (2, .int x4)] [.int (if x12 ≤ x10 then 0 else 1)] := by
        refine V_topi (fun x14 ex14 => ?_)
        replace hP := lt_r ex14 hP
        refine V_istore_n (lv' := [(3, .int x14), (0, rf S 0), (1, .int x3), (2, .int x4)]) hX dX10_persuade_43 (by decide) rfl ?_
        refine V_iload_n hX dX10_persuade_44 0 rfl ?_
        refine V_if_eq (tgt := 82) hX dX10_persuade_45 (by decide) (fun hc15 => ?_) (fun hc15 => ?_)
        · replace hP := ite_t hc15 hP
          refine V_sub (lv' := [(0, rf S 0), (1, .int x3), (2, .int x4)]) [1, 2, 3] rfl ?_
          exact sK_X10_persuade_82 hX hR  hk88 ih  hP
        · replace hP := ite_f hc15 hP
          refine V_aload_n hX dX10_persuade_48 1 rfl ?_
          refine V_getF (j := 5) hX fk_X10_34 tb_0 (fun _ _ _ => rfl) dX10_persuade_49 ?_
          refine V_getF (j := 9) hX fk_X10_42 tb_5 (fun _ _ _ => rfl) dX10_persuade_52 ?_
          refine V_aload_n hX dX10_persuade_55 1 rfl ?_
          refine V_getF (j := 23) hX fk_X10_58 tb_0 (fun _ _ _ => rfl) dX10_persuade_56 ?_
          refine V_getI hX fk_X10_145 tb_23 (fun _ _ _ => rfl) dX10_persuade_59 ?_
          refine V_iload_n hX dX10_persuade_62 3 rfl ?_
          refine V_ior hX dX10_persuade_63 ?_
          obtain ⟨x20, w19, hcw19, hP⟩ := bnd_e hP
          refine V_callVi (As := [.int ((gI w11 23 8) ||| x4)]) (rest := []) hX mk_X10_298 nk_X5_persuadedBy (fun l => c_X5_persuadedBy l S (by decide) hcw19) tb_9 rfl ⟨rfl, rfl, Nat.le_of_ble_eq_true rfl, Nat.le_of_ble_eq_true rfl⟩ rfl rfl (Nat.le_of_ble_eq_true rfl) dX10_persuade_64 ?_
          refine V_aload_n hX dX10_persuade_67 1 rfl ?_
          refine V_getF (j := 5) hX fk_X10_34 tb_0 (fun _ _ _ => rfl) dX10_persuade_68 ?_
          refine V_getF (j := 9) hX fk_X10_42 tb_5 (fun _ _ _ => rfl) dX10_persuade_71 ?_
          obtain ⟨x22, w21, hcw21, hP⟩ := bnd_e hP
          refine V_callVi (As := []) (rest := [.int x20]) hX mk_X10_272 nk_X5_all (fun l => c_X5_all l S (by decide) hcw21) tb_9 rfl ⟨rfl, rfl, Nat.le_of_ble_eq_true rfl, Nat.le_of_ble_eq_true rfl⟩ rfl rfl (Nat.le_of_ble_eq_true rfl) dX10_persuade_74 ?_
          refine V_icmp_ne (tgt := 82) hX dX10_persuade_77 (by decide) (fun hc23 => ?_) (fun hc23 => ?_)
          · replace hP := ite_f hc23 hP
            refine V_sub (lv' := [(0, rf S 0), (1, .int x3), (2, .int x4)]) [1, 2, 3] rfl ?_
            exact sK_X10_persuade_82 hX hR  hk88 ih  hP
          · replace hP := ite_t hc23 hP
            refine V_iload_n hX dX10_persuade_80 3 rfl ?_
            refine V_istore_n (lv' := [(1, .int x4), (3, .int x14), (0, rf S 0), (2, .int x4)]) hX dX10_persuade_81 (by decide) rfl ?_
            refine V_sub (lv' := [(0, rf S 0), (1, .int x4), (2, .int x4)]) [2, 0, 3] rfl ?_
            exact sK_X10_persuade_82 hX hR  hk88 ih  hP
      refine V_icmp_ge (tgt := 42) hX dX10_persuade_35 (by decide) (fun hc13 => ?_) (fun hc13 => ?_)
      · refine V_iconst (v := 0) hX dX10_persuade_42 (by decide) ?_
        refine V_selT (c := x12 ≤ x10) (b := 1) hc13 ?_
        exact k24
      · refine V_iconst (v := 1) hX dX10_persuade_38 (by decide) ?_
        refine V_goto (tgt := 43) hX dX10_persuade_39 (by decide) ?_
        refine V_selF (c := x12 ≤ x10) (a := 0) hc13 ?_
        exact k24
def P_X10_persuade (F : Nat) (w : Wd)  : Option (Int32 × Wd) := bnd (P_X5_all F w 9) (fun x2 w1 => L_X10_persuade_13 F  (fun w x5 => bnv (P_X10_tell F w (Int32.toInt64 x5)) (fun w25 => bnd (P_J6_bitCount_0f7a4 F w25 x5) (fun x27 w26 => some (x27, w26)))) F w1 x2 0)
set_option maxRecDepth 100000 in
set_option maxHeartbeats 4000000 in
theorem s_X10_persuade {X : Cx} {S : Sx} {r : Int32 × Wd} {F : Nat} {w : Wd}   (hX : Ok X S cX10_persuade RX10 4 rm_X10_persuade) (hR : HRt X S cX10_persuade .int r) (hP : P_X10_persuade F w  = some r) : V X S w 0 [(0, rf S 0)] [] := by
  unfold P_X10_persuade at hP
  refine V_aload_n hX dX10_persuade_0 0 rfl ?_
  refine V_getF (j := 5) hX fk_X10_34 tb_0 (fun _ _ _ => rfl) dX10_persuade_1 ?_
  refine V_getF (j := 9) hX fk_X10_42 tb_5 (fun _ _ _ => rfl) dX10_persuade_4 ?_
  obtain ⟨x2, w1, hcw1, hP⟩ := bnd_e hP
  refine V_callVi (As := []) (rest := []) hX mk_X10_272 nk_X5_all (fun l => c_X5_all l S (by decide) hcw1) tb_9 rfl ⟨rfl, rfl, Nat.le_of_ble_eq_true rfl, Nat.le_of_ble_eq_true rfl⟩ rfl rfl (Nat.le_of_ble_eq_true rfl) dX10_persuade_7 ?_
  refine V_istore_n (lv' := [(1, .int x2), (0, rf S 0)]) hX dX10_persuade_10 (by decide) rfl ?_
  refine V_iconst (v := 0) hX dX10_persuade_11 (by decide) ?_
  refine V_istore_n (lv' := [(2, .int 0), (1, .int x2), (0, rf S 0)]) hX dX10_persuade_12 (by decide) rfl ?_
  refine V_sub (lv' := [(0, rf S 0), (1, .int x2), (2, .int 0)]) [2, 1, 0] rfl ?_
  have k28 : ∀ (w : Wd) (x5 : Int32) , (bnv (P_X10_tell F w (Int32.toInt64 x5)) (fun w25 => bnd (P_J6_bitCount_0f7a4 F w25 x5) (fun x27 w26 => some (x27, w26)))) = some r → V X S w 88 [(0, rf S 0), (1, .int x5)] [] := by
    intro w x5  hP
    refine V_aload_n hX dX10_persuade_88 0 rfl ?_
    refine V_iload_n hX dX10_persuade_89 1 rfl ?_
    refine V_i2l hX dX10_persuade_90 ?_
    obtain ⟨w25, hcw25, hP⟩ := bnv_e hP
    refine V_callVv (As := [.long (Int32.toInt64 x5)]) (rest := []) hX mk_X10_263 nk_X10_tell (fun l => c_X10_tell l S  hcw25) tb_0 rfl ⟨rfl, rfl, Nat.le_of_ble_eq_true rfl, Nat.le_of_ble_eq_true rfl⟩ rfl rfl (Nat.le_of_ble_eq_true rfl) dX10_persuade_91 ?_
    refine V_iload_n hX dX10_persuade_94 1 rfl ?_
    obtain ⟨x27, w26, hcw26, hP⟩ := bnd_e hP
    refine V_callSi (As := [.int x5]) (rest := []) hX mk_X10_228 nk_J6_bitCount_0f7a4 (fun l => c_J6_bitCount_0f7a4 l S  hcw26) ⟨rfl, rfl, Nat.le_of_ble_eq_true rfl, Nat.le_of_ble_eq_true rfl⟩ rfl rfl (Nat.le_of_ble_eq_true rfl) dX10_persuade_95 ?_
    exact hR _ _ _ _ (Option.some.inj hP) rfl dX10_persuade_98
  exact sL_X10_persuade_13 hX hR  k28 F _ _ _  hP
theorem c_X10_persuade (l : Launch) (S : Sx) {r : Int32 × Wd} {F : Nat} {w : Wd}   (h : P_X10_persuade F w  = some r) : Met l yX10_persuade (wsg yX10_persuade cX10_persuade 4 (some .int)) rm_X10_persuade (PC S w [rf S 0]) (QCi S r) 0 0 (Aw S) :=
  met_i (by decide) rfl (Nat.le_of_ble_eq_true rfl) ⟨rfl, rfl⟩ (fun X hX hR => s_X10_persuade  hX hR h)

-- MustNotStop.firm()I
abbrev rm_X10_firm : Room := { frames := 3, cells := 0, slots := 0, locals := 108 }
theorem nk_X10_firm : MNk yX10_firm RX10 0 := ⟨rfl, by decide, by decide, by decide +kernel⟩
def K_X10_firm_62 (F : Nat)  (k68 : Wd → Int32 → Option (Int32 × Wd)) (rc : Wd → Int32 → Int32 → Option (Int32 × Wd)) (w : Wd) (x10 : Int32) (x11 : Int32) : Option (Int32 × Wd) := lt (x11 + 1 : Int32) (fun x12 => rc w x10 x12)
set_option maxRecDepth 100000 in
set_option maxHeartbeats 4000000 in
theorem sK_X10_firm_62 {X : Cx} {S : Sx} {r : Int32 × Wd} {F : Nat}  {k68 : Wd → Int32 → Option (Int32 × Wd)} {rc : Wd → Int32 → Int32 → Option (Int32 × Wd)} {w : Wd} {x10 : Int32} {x11 : Int32} (hX : Ok X S cX10_firm RX10 4 rm_X10_firm) (hR : HRt X S cX10_firm .int r)  (hk68 : ∀ (w : Wd) (x3 : Int32) , k68 w x3 = some r → V X S w 68 [(0, rf S 0), (1, .int x3)] []) (hrc : ∀ (w : Wd) (x1 : Int32) (x2 : Int32) , rc w x1 x2 = some r → V X S w 4 [(0, rf S 0), (1, .int x1), (2, .int x2)] [])  (hP : K_X10_firm_62 F  k68 rc w x10 x11 = some r) : V X S w 62 [(0, rf S 0), (1, .int x10), (2, .int x11)] [] := by
  unfold K_X10_firm_62 at hP
  obtain ⟨x12, ex12⟩ : ∃ y : Int32, y = x11 + 1 := ⟨_, rfl⟩
  replace hP := lt_r ex12 hP
  refine V_iinc (v := x12) (lv' := [(2, .int x12), (0, rf S 0), (1, .int x10)]) hX dX10_firm_62 (j := 2) rfl (by decide) (by rw [ex12]; rfl) rfl ?_
  refine V_goto (tgt := 4) hX dX10_firm_65 (by decide) ?_
  refine V_sub (lv' := [(0, rf S 0), (1, .int x10), (2, .int x12)]) [1, 2, 0] rfl ?_
  exact hrc _ _ _  hP
def K_X10_firm_56 (F : Nat)  (k68 : Wd → Int32 → Option (Int32 × Wd)) (rc : Wd → Int32 → Int32 → Option (Int32 × Wd)) (w : Wd) (x14 : Int32) (x15 : Int32) : Option (Int32 × Wd) := lt (x14 ||| (ishlI 1 x15) : Int32) (fun x16 => K_X10_firm_62 F  k68 rc w x16 x15)
set_option maxRecDepth 100000 in
set_option maxHeartbeats 4000000 in
theorem sK_X10_firm_56 {X : Cx} {S : Sx} {r : Int32 × Wd} {F : Nat}  {k68 : Wd → Int32 → Option (Int32 × Wd)} {rc : Wd → Int32 → Int32 → Option (Int32 × Wd)} {w : Wd} {x14 : Int32} {x15 : Int32} (hX : Ok X S cX10_firm RX10 4 rm_X10_firm) (hR : HRt X S cX10_firm .int r)  (hk68 : ∀ (w : Wd) (x3 : Int32) , k68 w x3 = some r → V X S w 68 [(0, rf S 0), (1, .int x3)] []) (hrc : ∀ (w : Wd) (x1 : Int32) (x2 : Int32) , rc w x1 x2 = some r → V X S w 4 [(0, rf S 0), (1, .int x1), (2, .int x2)] [])  (hP : K_X10_firm_56 F  k68 rc w x14 x15 = some r) : V X S w 56 [(0, rf S 0), (1, .int x14), (2, .int x15)] [] := by
  unfold K_X10_firm_56 at hP
  refine V_iload_n hX dX10_firm_56 1 rfl ?_
  refine V_iconst (v := 1) hX dX10_firm_57 (by decide) ?_
  refine V_iload_n hX dX10_firm_58 2 rfl ?_
  refine V_ishl hX dX10_firm_59 ?_
  refine V_ior hX dX10_firm_60 ?_
  refine V_topi (fun x16 ex16 => ?_)
  replace hP := lt_r ex16 hP
  refine V_istore_n (lv' := [(1, .int x16), (0, rf S 0), (2, .int x15)]) hX dX10_firm_61 (by decide) rfl ?_
  refine V_sub (lv' := [(0, rf S 0), (1, .int x16), (2, .int x15)]) [1, 0, 2] rfl ?_
  exact sK_X10_firm_62 hX hR  hk68 hrc  hP
def L_X10_firm_4 (F : Nat)  (k68 : Wd → Int32 → Option (Int32 × Wd)) : Nat → Wd → Int32 → Int32 → Option (Int32 × Wd)
  | 0, _, _, _ => none
  | n + 1, w, x1, x2 => (if (8 : Int32) ≤ x2 then k68 w x1 else bnd (P_X5_secondOf F w 9 x2) (fun x6 w5 => bnd (P_X5_has F w5 9 x2) (fun x8 w7 => (if x8 = 0 then K_X10_firm_62 F  k68 ((L_X10_firm_4 F  k68 n)) w7 x1 x2 else (if x6 = 0 then K_X10_firm_56 F  k68 ((L_X10_firm_4 F  k68 n)) w7 x1 x2 else (if x6 ≤ ((gI w7 9 2) - 1) then K_X10_firm_62 F  k68 ((L_X10_firm_4 F  k68 n)) w7 x1 x2 else K_X10_firm_56 F  k68 ((L_X10_firm_4 F  k68 n)) w7 x1 x2))))))
set_option maxRecDepth 100000 in
set_option maxHeartbeats 4000000 in
theorem sL_X10_firm_4 {X : Cx} {S : Sx} {r : Int32 × Wd} {F : Nat}  {k68 : Wd → Int32 → Option (Int32 × Wd)} (hX : Ok X S cX10_firm RX10 4 rm_X10_firm) (hR : HRt X S cX10_firm .int r)  (hk68 : ∀ (w : Wd) (x3 : Int32) , k68 w x3 = some r → V X S w 68 [(0, rf S 0), (1, .int x3)] []) : ∀ (n : Nat) (w : Wd) (x1 : Int32) (x2 : Int32) , L_X10_firm_4 F  k68 n w x1 x2 = some r → V X S w 4 [(0, rf S 0), (1, .int x1), (2, .int x2)] [] := by
  intro n
  induction n with
  | zero =>
    intro w x1 x2  hP
    exact nn hP
  | succ n ih =>
    intro w x1 x2  hP
    rw [L_X10_firm_4] at hP
    refine V_iload_n hX dX10_firm_4 2 rfl ?_
    refine V_bipush (v := 8) hX dX10_firm_5 (by decide) ?_
    refine V_icmp_ge (tgt := 68) hX dX10_firm_7 (by decide) (fun hc4 => ?_) (fun hc4 => ?_)
    · replace hP := ite_t hc4 hP
      refine V_sub (lv' := [(0, rf S 0), (1, .int x1)]) [0, 1] rfl ?_
      exact hk68 _ _  hP
    · replace hP := ite_f hc4 hP
      refine V_aload_n hX dX10_firm_10 0 rfl ?_
      refine V_getF (j := 5) hX fk_X10_34 tb_0 (fun _ _ _ => rfl) dX10_firm_11 ?_
      refine V_getF (j := 9) hX fk_X10_42 tb_5 (fun _ _ _ => rfl) dX10_firm_14 ?_
      refine V_iload_n hX dX10_firm_17 2 rfl ?_
      obtain ⟨x6, w5, hcw5, hP⟩ := bnd_e hP
      refine V_callVi (As := [.int x2]) (rest := []) hX mk_X10_132 nk_X5_secondOf (fun l => c_X5_secondOf l S (by decide) hcw5) tb_9 rfl ⟨rfl, rfl, Nat.le_of_ble_eq_true rfl, Nat.le_of_ble_eq_true rfl⟩ rfl rfl (Nat.le_of_ble_eq_true rfl) dX10_firm_18 ?_
      refine V_istore_n (lv' := [(3, .int x6), (0, rf S 0), (1, .int x1), (2, .int x2)]) hX dX10_firm_21 (by decide) rfl ?_
      refine V_aload_n hX dX10_firm_22 1 rfl ?_
      refine V_getF (j := 5) hX fk_X10_34 tb_0 (fun _ _ _ => rfl) dX10_firm_23 ?_
      refine V_getF (j := 9) hX fk_X10_42 tb_5 (fun _ _ _ => rfl) dX10_firm_26 ?_
      refine V_iload_n hX dX10_firm_29 3 rfl ?_
      obtain ⟨x8, w7, hcw7, hP⟩ := bnd_e hP
      refine V_callVi (As := [.int x2]) (rest := []) hX mk_X10_121 nk_X5_has (fun l => c_X5_has l S (by decide) hcw7) tb_9 rfl ⟨rfl, rfl, Nat.le_of_ble_eq_true rfl, Nat.le_of_ble_eq_true rfl⟩ rfl rfl (Nat.le_of_ble_eq_true rfl) dX10_firm_30 ?_
      refine V_if_eq (tgt := 62) hX dX10_firm_33 (by decide) (fun hc9 => ?_) (fun hc9 => ?_)
      · replace hP := ite_t hc9 hP
        refine V_sub (lv' := [(0, rf S 0), (1, .int x1), (2, .int x2)]) [1, 2, 3] rfl ?_
        exact sK_X10_firm_62 hX hR  hk68 ih  hP
      · replace hP := ite_f hc9 hP
        refine V_iload_n hX dX10_firm_36 0 rfl ?_
        refine V_if_eq (tgt := 56) hX dX10_firm_37 (by decide) (fun hc13 => ?_) (fun hc13 => ?_)
        · replace hP := ite_t hc13 hP
          refine V_sub (lv' := [(0, rf S 0), (1, .int x1), (2, .int x2)]) [1, 2, 3] rfl ?_
          exact sK_X10_firm_56 hX hR  hk68 ih  hP
        · replace hP := ite_f hc13 hP
          refine V_iload_n hX dX10_firm_40 0 rfl ?_
          refine V_aload_n hX dX10_firm_41 1 rfl ?_
          refine V_getF (j := 5) hX fk_X10_34 tb_0 (fun _ _ _ => rfl) dX10_firm_42 ?_
          refine V_getF (j := 9) hX fk_X10_42 tb_5 (fun _ _ _ => rfl) dX10_firm_45 ?_
          refine V_getI hX fk_X10_301 tb_9 (fun _ _ _ => rfl) dX10_firm_48 ?_
          refine V_iconst (v := 1) hX dX10_firm_51 (by decide) ?_
          refine V_isub hX dX10_firm_52 ?_
          refine V_icmp_le (tgt := 62) hX dX10_firm_53 (by decide) (fun hc17 => ?_) (fun hc17 => ?_)
          · replace hP := ite_t hc17 hP
            refine V_sub (lv' := [(0, rf S 0), (1, .int x1), (2, .int x2)]) [1, 2, 3] rfl ?_
            exact sK_X10_firm_62 hX hR  hk68 ih  hP
          · replace hP := ite_f hc17 hP
            refine V_sub (lv' := [(0, rf S 0), (1, .int x1), (2, .int x2)]) [1, 2, 3] rfl ?_
            exact sK_X10_firm_56 hX hR  hk68 ih  hP
def P_X10_firm (F : Nat) (w : Wd)  : Option (Int32 × Wd) := L_X10_firm_4 F  (fun w x3 => bnd (P_J6_bitCount_0f7a4 F w x3) (fun x19 w18 => bnv (P_X10_tell F w18 (Int32.toInt64 x19)) (fun w20 => some (x3, w20)))) F w 0 0
set_option maxRecDepth 100000 in
set_option maxHeartbeats 4000000 in
theorem s_X10_firm {X : Cx} {S : Sx} {r : Int32 × Wd} {F : Nat} {w : Wd}   (hX : Ok X S cX10_firm RX10 4 rm_X10_firm) (hR : HRt X S cX10_firm .int r) (hP : P_X10_firm F w  = some r) : V X S w 0 [(0, rf S 0)] [] := by
  unfold P_X10_firm at hP
  refine V_iconst (v := 0) hX dX10_firm_0 (by decide) ?_
  refine V_istore_n (lv' := [(1, .int 0), (0, rf S 0)]) hX dX10_firm_1 (by decide) rfl ?_
  refine V_iconst (v := 0) hX dX10_firm_2 (by decide) ?_
  refine V_istore_n (lv' := [(2, .int 0), (1, .int 0), (0, rf S 0)]) hX dX10_firm_3 (by decide) rfl ?_
  refine V_sub (lv' := [(0, rf S 0), (1, .int 0), (2, .int 0)]) [2, 1, 0] rfl ?_
  have k21 : ∀ (w : Wd) (x3 : Int32) , (bnd (P_J6_bitCount_0f7a4 F w x3) (fun x19 w18 => bnv (P_X10_tell F w18 (Int32.toInt64 x19)) (fun w20 => some (x3, w20)))) = some r → V X S w 68 [(0, rf S 0), (1, .int x3)] [] := by
    intro w x3  hP
    refine V_aload_n hX dX10_firm_68 0 rfl ?_
    refine V_iload_n hX dX10_firm_69 1 rfl ?_
    obtain ⟨x19, w18, hcw18, hP⟩ := bnd_e hP
    refine V_callSi (As := [.int x3]) (rest := [rf S 0]) hX mk_X10_228 nk_J6_bitCount_0f7a4 (fun l => c_J6_bitCount_0f7a4 l S  hcw18) ⟨rfl, rfl, Nat.le_of_ble_eq_true rfl, Nat.le_of_ble_eq_true rfl⟩ rfl rfl (Nat.le_of_ble_eq_true rfl) dX10_firm_70 ?_
    refine V_i2l hX dX10_firm_73 ?_
    obtain ⟨w20, hcw20, hP⟩ := bnv_e hP
    refine V_callVv (As := [.long (Int32.toInt64 x19)]) (rest := []) hX mk_X10_263 nk_X10_tell (fun l => c_X10_tell l S  hcw20) tb_0 rfl ⟨rfl, rfl, Nat.le_of_ble_eq_true rfl, Nat.le_of_ble_eq_true rfl⟩ rfl rfl (Nat.le_of_ble_eq_true rfl) dX10_firm_74 ?_
    refine V_iload_n hX dX10_firm_77 1 rfl ?_
    exact hR _ _ _ _ (Option.some.inj hP) rfl dX10_firm_78
  exact sL_X10_firm_4 hX hR  k21 F _ _ _  hP
theorem c_X10_firm (l : Launch) (S : Sx) {r : Int32 × Wd} {F : Nat} {w : Wd}   (h : P_X10_firm F w  = some r) : Met l yX10_firm (wsg yX10_firm cX10_firm 4 (some .int)) rm_X10_firm (PC S w [rf S 0]) (QCi S r) 0 0 (Aw S) :=
  met_i (by decide) rfl (Nat.le_of_ble_eq_true rfl) ⟨rfl, rfl⟩ (fun X hX hR => s_X10_firm  hX hR h)

-- MustNotStop.law()I
abbrev rm_X10_law : Room := { frames := 7, cells := 0, slots := 0, locals := 203 }
theorem nk_X10_law : MNk yX10_law RX10 0 := ⟨rfl, by decide, by decide, by decide +kernel⟩
def P_X10_law (F : Nat) (w : Wd)  : Option (Int32 × Wd) := lt (gR w 0 4) (fun a1 => gd (isX2 a1) (bnd (P_X2_read F w a1) (fun x3 w2 => lt (sI w2 1 1 0) (fun w4 => (if x3 < 0 then bnv (P_X9_setAs F w4 17 5) (fun w6 => lt (gR w6 0 4) (fun a7 => gd (isX2 a7) (lt (sR w6 17 2 a7) (fun w8 => bnd (P_X10_firstStop F w8 17) (fun x10 w9 => bnd (P_X10_firstStop F w9 5) (fun x12 w11 => bnv (P_X10_tell_ F w11 (Int32.toInt64 x10) (Int32.toInt64 x12)) (fun w13 => some (x10 - x12, w13)))))))) else some (((-10000)) - x3, w4))))))
set_option maxRecDepth 100000 in
set_option maxHeartbeats 4000000 in
theorem s_X10_law {X : Cx} {S : Sx} {r : Int32 × Wd} {F : Nat} {w : Wd}   (hX : Ok X S cX10_law RX10 4 rm_X10_law) (hR : HRt X S cX10_law .int r) (hP : P_X10_law F w  = some r) : V X S w 0 [(0, rf S 0)] [] := by
  unfold P_X10_law at hP
  refine V_aload_n hX dX10_law_0 0 rfl ?_
  refine V_getD hX fk_X10_52 tb_0 (fun _ _ _ => rfl) dX10_law_1 ?_
  refine V_topr (fun a1 ea1 => ?_)
  replace hP := lt_r ea1 hP
  obtain ⟨ha1, hP⟩ := gd_e hP
  refine V_aload_n hX dX10_law_4 0 rfl ?_
  refine V_getF (j := 1) hX fk_X10_10 tb_0 (fun _ _ _ => rfl) dX10_law_5 ?_
  obtain ⟨x3, w2, hcw2, hP⟩ := bnd_e hP
  refine V_callVi (As := [rf S 1]) (rest := []) hX mk_X10_118 nk_X2_read (fun l => c_X2_read l S ha1 hcw2) (tb_X2 ha1) rfl ⟨rfl, rfl, Nat.le_of_ble_eq_true rfl, Nat.le_of_ble_eq_true rfl⟩ rfl rfl (Nat.le_of_ble_eq_true rfl) dX10_law_8 ?_
  refine V_istore_n (lv' := [(1, .int x3), (0, rf S 0)]) hX dX10_law_11 (by decide) rfl ?_
  refine V_aload_n hX dX10_law_12 1 rfl ?_
  refine V_getF (j := 1) hX fk_X10_10 tb_0 (fun _ _ _ => rfl) dX10_law_13 ?_
  refine V_iconst (v := 0) hX dX10_law_16 (by decide) ?_
  refine V_putI hX fw_X10_97 tb_1 (fun _ _ _ => ⟨Nat.le_of_ble_eq_true rfl, rfl⟩) dX10_law_17 (fun w4 ew4 => ?_)
  replace hP := lt_r ew4 hP
  refine V_iload_n hX dX10_law_20 0 rfl ?_
  refine V_if_lt (tgt := 30) hX dX10_law_21 (by decide) (fun hc5 => ?_) (fun hc5 => ?_)
  · replace hP := ite_t hc5 hP
    refine V_aload_n hX dX10_law_30 1 rfl ?_
    refine V_getF (j := 17) hX fk_X10_49 tb_0 (fun _ _ _ => rfl) dX10_law_31 ?_
    refine V_aload_n hX dX10_law_34 1 rfl ?_
    refine V_getF (j := 5) hX fk_X10_34 tb_0 (fun _ _ _ => rfl) dX10_law_35 ?_
    obtain ⟨w6, hcw6, hP⟩ := bnv_e hP
    refine V_callVv (As := [rf S 5]) (rest := []) hX mk_X10_302 nk_X9_setAs (fun l => c_X9_setAs l S (by decide) (by decide) hcw6) tb_17 rfl ⟨rfl, rfl, Nat.le_of_ble_eq_true rfl, Nat.le_of_ble_eq_true rfl⟩ rfl rfl (Nat.le_of_ble_eq_true rfl) dX10_law_38 ?_
    refine V_aload_n hX dX10_law_41 1 rfl ?_
    refine V_getF (j := 17) hX fk_X10_49 tb_0 (fun _ _ _ => rfl) dX10_law_42 ?_
    refine V_aload_n hX dX10_law_45 1 rfl ?_
    refine V_getD hX fk_X10_52 tb_0 (fun _ _ _ => rfl) dX10_law_46 ?_
    refine V_topr (fun a7 ea7 => ?_)
    replace hP := lt_r ea7 hP
    obtain ⟨ha7, hP⟩ := gd_e hP
    refine V_putD hX fw_X10_45 tb_17 (fun _ _ _ => ⟨Nat.le_of_ble_eq_true rfl, rfl⟩) dX10_law_49 (fun w8 ew8 => ?_)
    replace hP := lt_r ew8 hP
    refine V_aload_n hX dX10_law_52 1 rfl ?_
    refine V_aload_n hX dX10_law_53 1 rfl ?_
    refine V_getF (j := 17) hX fk_X10_49 tb_0 (fun _ _ _ => rfl) dX10_law_54 ?_
    obtain ⟨x10, w9, hcw9, hP⟩ := bnd_e hP
    refine V_callVi (As := [rf S 17]) (rest := []) hX mk_X10_246 nk_X10_firstStop (fun l => c_X10_firstStop l S (by decide) hcw9) tb_0 rfl ⟨rfl, rfl, Nat.le_of_ble_eq_true rfl, Nat.le_of_ble_eq_true rfl⟩ rfl rfl (Nat.le_of_ble_eq_true rfl) dX10_law_57 ?_
    refine V_istore_n (lv' := [(2, .int x10), (1, .int x3), (0, rf S 0)]) hX dX10_law_60 (by decide) rfl ?_
    refine V_aload_n hX dX10_law_61 2 rfl ?_
    refine V_aload_n hX dX10_law_62 2 rfl ?_
    refine V_getF (j := 5) hX fk_X10_34 tb_0 (fun _ _ _ => rfl) dX10_law_63 ?_
    obtain ⟨x12, w11, hcw11, hP⟩ := bnd_e hP
    refine V_callVi (As := [rf S 5]) (rest := []) hX mk_X10_246 nk_X10_firstStop (fun l => c_X10_firstStop l S (by decide) hcw11) tb_0 rfl ⟨rfl, rfl, Nat.le_of_ble_eq_true rfl, Nat.le_of_ble_eq_true rfl⟩ rfl rfl (Nat.le_of_ble_eq_true rfl) dX10_law_66 ?_
    refine V_istore_n (lv' := [(3, .int x12), (2, .int x10), (1, .int x3), (0, rf S 0)]) hX dX10_law_69 (by decide) rfl ?_
    refine V_aload_n hX dX10_law_70 3 rfl ?_
    refine V_iload_n hX dX10_law_71 1 rfl ?_
    refine V_i2l hX dX10_law_72 ?_
    refine V_iload_n hX dX10_law_73 0 rfl ?_
    refine V_i2l hX dX10_law_74 ?_
    obtain ⟨w13, hcw13, hP⟩ := bnv_e hP
    refine V_callVv (As := [.long (Int32.toInt64 x10), .long (Int32.toInt64 x12)]) (rest := []) hX mk_X10_202 nk_X10_tell_ (fun l => c_X10_tell_ l S  hcw13) tb_0 rfl ⟨rfl, rfl, Nat.le_of_ble_eq_true rfl, Nat.le_of_ble_eq_true rfl⟩ rfl rfl (Nat.le_of_ble_eq_true rfl) dX10_law_75 ?_
    refine V_iload_n hX dX10_law_78 1 rfl ?_
    refine V_iload_n hX dX10_law_79 0 rfl ?_
    refine V_isub hX dX10_law_80 ?_
    exact hR _ _ _ _ (Option.some.inj hP) rfl dX10_law_81
  · replace hP := ite_f hc5 hP
    refine V_sipush (v := (-10000)) hX dX10_law_24 (by decide) ?_
    refine V_iload_n hX dX10_law_27 0 rfl ?_
    refine V_isub hX dX10_law_28 ?_
    exact hR _ _ _ _ (Option.some.inj hP) rfl dX10_law_29
theorem c_X10_law (l : Launch) (S : Sx) {r : Int32 × Wd} {F : Nat} {w : Wd}   (h : P_X10_law F w  = some r) : Met l yX10_law (wsg yX10_law cX10_law 4 (some .int)) rm_X10_law (PC S w [rf S 0]) (QCi S r) 0 0 (Aw S) :=
  met_i (by decide) rfl (Nat.le_of_ble_eq_true rfl) ⟨rfl, rfl⟩ (fun X hX hR => s_X10_law  hX hR h)

-- MustNotStop.frozen(I)I
abbrev rm_X10_frozen : Room := { frames := 5, cells := 0, slots := 0, locals := 166 }
theorem nk_X10_frozen : MNk yX10_frozen RX10 1 := ⟨rfl, by decide, by decide, by decide +kernel⟩
def P_X10_frozen (F : Nat) (w : Wd) (x1 : Int32) : Option (Int32 × Wd) := (if x1 < 0 then some ((-1), w) else (if x1 ≤ 9 then bnv (P_X9_setAs F w 17 5) (fun w4 => lt (sI w4 17 4 x1) (fun w5 => bnd (P_X9_able F w5 17 23) (fun x7 w6 => bnd (P_J6_bitCount_0f7a4 F w6 x7) (fun x9 w8 => bnv (P_X10_tell F w8 (Int32.toInt64 x9)) (fun w10 => some (x7, w10)))))) else some ((-1), w)))
set_option maxRecDepth 100000 in
set_option maxHeartbeats 4000000 in
theorem s_X10_frozen {X : Cx} {S : Sx} {r : Int32 × Wd} {F : Nat} {w : Wd} {x1 : Int32}  (hX : Ok X S cX10_frozen RX10 3 rm_X10_frozen) (hR : HRt X S cX10_frozen .int r) (hP : P_X10_frozen F w x1 = some r) : V X S w 0 [(0, rf S 0), (1, .int x1)] [] := by
  unfold P_X10_frozen at hP
  refine V_iload_n hX dX10_frozen_0 1 rfl ?_
  refine V_if_lt (tgt := 10) hX dX10_frozen_1 (by decide) (fun hc2 => ?_) (fun hc2 => ?_)
  · replace hP := ite_t hc2 hP
    refine V_iconst (v := (-1)) hX dX10_frozen_10 (by decide) ?_
    exact hR _ _ _ _ (Option.some.inj hP) rfl dX10_frozen_11
  · replace hP := ite_f hc2 hP
    refine V_iload_n hX dX10_frozen_4 1 rfl ?_
    refine V_bipush (v := 9) hX dX10_frozen_5 (by decide) ?_
    refine V_icmp_le (tgt := 12) hX dX10_frozen_7 (by decide) (fun hc3 => ?_) (fun hc3 => ?_)
    · replace hP := ite_t hc3 hP
      refine V_aload_n hX dX10_frozen_12 0 rfl ?_
      refine V_getF (j := 17) hX fk_X10_49 tb_0 (fun _ _ _ => rfl) dX10_frozen_13 ?_
      refine V_aload_n hX dX10_frozen_16 0 rfl ?_
      refine V_getF (j := 5) hX fk_X10_34 tb_0 (fun _ _ _ => rfl) dX10_frozen_17 ?_
      obtain ⟨w4, hcw4, hP⟩ := bnv_e hP
      refine V_callVv (As := [rf S 5]) (rest := []) hX mk_X10_302 nk_X9_setAs (fun l => c_X9_setAs l S (by decide) (by decide) hcw4) tb_17 rfl ⟨rfl, rfl, Nat.le_of_ble_eq_true rfl, Nat.le_of_ble_eq_true rfl⟩ rfl rfl (Nat.le_of_ble_eq_true rfl) dX10_frozen_20 ?_
      refine V_aload_n hX dX10_frozen_23 0 rfl ?_
      refine V_getF (j := 17) hX fk_X10_49 tb_0 (fun _ _ _ => rfl) dX10_frozen_24 ?_
      refine V_iload_n hX dX10_frozen_27 1 rfl ?_
      refine V_putI hX fw_X10_154 tb_17 (fun _ _ _ => ⟨Nat.le_of_ble_eq_true rfl, rfl⟩) dX10_frozen_28 (fun w5 ew5 => ?_)
      replace hP := lt_r ew5 hP
      refine V_aload_n hX dX10_frozen_31 0 rfl ?_
      refine V_getF (j := 17) hX fk_X10_49 tb_0 (fun _ _ _ => rfl) dX10_frozen_32 ?_
      refine V_aload_n hX dX10_frozen_35 0 rfl ?_
      refine V_getF (j := 23) hX fk_X10_58 tb_0 (fun _ _ _ => rfl) dX10_frozen_36 ?_
      obtain ⟨x7, w6, hcw6, hP⟩ := bnd_e hP
      refine V_callVi (As := [rf S 23]) (rest := []) hX mk_X10_306 nk_X9_able (fun l => c_X9_able l S (by decide) (by decide) hcw6) tb_17 rfl ⟨rfl, rfl, Nat.le_of_ble_eq_true rfl, Nat.le_of_ble_eq_true rfl⟩ rfl rfl (Nat.le_of_ble_eq_true rfl) dX10_frozen_39 ?_
      refine V_istore_n (lv' := [(2, .int x7), (0, rf S 0), (1, .int x1)]) hX dX10_frozen_42 (by decide) rfl ?_
      refine V_aload_n hX dX10_frozen_43 1 rfl ?_
      refine V_iload_n hX dX10_frozen_44 0 rfl ?_
      obtain ⟨x9, w8, hcw8, hP⟩ := bnd_e hP
      refine V_callSi (As := [.int x7]) (rest := [rf S 0]) hX mk_X10_228 nk_J6_bitCount_0f7a4 (fun l => c_J6_bitCount_0f7a4 l S  hcw8) ⟨rfl, rfl, Nat.le_of_ble_eq_true rfl, Nat.le_of_ble_eq_true rfl⟩ rfl rfl (Nat.le_of_ble_eq_true rfl) dX10_frozen_45 ?_
      refine V_i2l hX dX10_frozen_48 ?_
      obtain ⟨w10, hcw10, hP⟩ := bnv_e hP
      refine V_callVv (As := [.long (Int32.toInt64 x9)]) (rest := []) hX mk_X10_263 nk_X10_tell (fun l => c_X10_tell l S  hcw10) tb_0 rfl ⟨rfl, rfl, Nat.le_of_ble_eq_true rfl, Nat.le_of_ble_eq_true rfl⟩ rfl rfl (Nat.le_of_ble_eq_true rfl) dX10_frozen_49 ?_
      refine V_iload_n hX dX10_frozen_52 0 rfl ?_
      exact hR _ _ _ _ (Option.some.inj hP) rfl dX10_frozen_53
    · replace hP := ite_f hc3 hP
      refine V_iconst (v := (-1)) hX dX10_frozen_10 (by decide) ?_
      exact hR _ _ _ _ (Option.some.inj hP) rfl dX10_frozen_11
theorem c_X10_frozen (l : Launch) (S : Sx) {r : Int32 × Wd} {F : Nat} {w : Wd} {x1 : Int32}  (h : P_X10_frozen F w x1 = some r) : Met l yX10_frozen (wsg yX10_frozen cX10_frozen 3 (some .int)) rm_X10_frozen (PC S w [rf S 0, .int x1]) (QCi S r) 0 0 (Aw S) :=
  met_i (by decide) rfl (Nat.le_of_ble_eq_true rfl) ⟨rfl, rfl⟩ (fun X hX hR => s_X10_frozen  hX hR h)
