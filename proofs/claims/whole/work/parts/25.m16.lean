-- MustNotStopModel.rang(I)I
abbrev rm_X11_rang : Room := { frames := 7, cells := 0, slots := 0, locals := 201 }
theorem nk_X11_rang : MNk yX11_rang RX11 1 := ⟨rfl, by decide, by decide, by decide +kernel⟩
def P_X11_rang (F : Nat) (w : Wd) (x1 : Int32) : Option (Int32 × Wd) := lt (sI w 88 0 0) (fun w2 => bnd (P_X11_in F w2 (Int32.toInt64 x1) 0 5) (fun x4 w3 => (if x4 = 0 then some ((-1), w3) else bnv (P_X11_laysRows F w3 ) (fun w6 => lt (sI w6 88 1 0) (fun w7 => bnd (P_X11_rangIn F w7 x1) (fun x9 w8 => bnd (P_J6_bitCount_0f7a4 F w8 x9) (fun x11 w10 => bnv (P_X11_enters F w10 (Int32.toInt64 x11)) (fun w12 => bnd (P_X11_rangIn F w12 x1) (fun x14 w13 => some (x14, w13))))))))))
set_option maxRecDepth 100000 in
set_option maxHeartbeats 4000000 in
theorem s_X11_rang {X : Cx} {S : Sx} {r : Int32 × Wd} {F : Nat} {w : Wd} {x1 : Int32}  (hX : Ok X S cX11_rang RX11 2 rm_X11_rang) (hR : HRt X S cX11_rang .int r) (hP : P_X11_rang F w x1 = some r) : V X S w 0 [(0, rf S 88), (1, .int x1)] [] := by
  unfold P_X11_rang at hP
  refine V_aload_n hX dX11_rang_0 0 rfl ?_
  refine V_iconst (v := 0) hX dX11_rang_1 (by decide) ?_
  refine V_putI hX fw_X11_102 tb_88 (fun _ _ _ => ⟨Nat.le_of_ble_eq_true rfl, rfl⟩) dX11_rang_2 (fun w2 ew2 => ?_)
  replace hP := lt_r ew2 hP
  refine V_iload_n hX dX11_rang_5 1 rfl ?_
  refine V_i2l hX dX11_rang_6 ?_
  refine V_lconst (v := 0) hX dX11_rang_7 rfl ?_
  refine V_ldc2 (v := 5) hX dX11_rang_8 cn_X11_387 ?_
  obtain ⟨x4, w3, hcw3, hP⟩ := bnd_e hP
  refine V_callSi (As := [.long (Int32.toInt64 x1), .long 0, .long 5]) (rest := []) hX mk_X11_116 nk_X11_in (fun l => c_X11_in l S  hcw3) ⟨rfl, rfl, Nat.le_of_ble_eq_true rfl, Nat.le_of_ble_eq_true rfl⟩ rfl rfl (Nat.le_of_ble_eq_true rfl) dX11_rang_11 ?_
  refine V_if_ne (tgt := 19) hX dX11_rang_14 (by decide) (fun hc5 => ?_) (fun hc5 => ?_)
  · replace hP := ite_f hc5 hP
    refine V_aload_n hX dX11_rang_19 0 rfl ?_
    obtain ⟨w6, hcw6, hP⟩ := bnv_e hP
    refine V_callVv (As := []) (rest := []) hX mk_X11_399 nk_X11_laysRows (fun l => c_X11_laysRows l S  hcw6) tb_88 rfl ⟨rfl, rfl, Nat.le_of_ble_eq_true rfl, Nat.le_of_ble_eq_true rfl⟩ rfl rfl (Nat.le_of_ble_eq_true rfl) dX11_rang_20 ?_
    refine V_aload_n hX dX11_rang_23 0 rfl ?_
    refine V_iconst (v := 0) hX dX11_rang_24 (by decide) ?_
    refine V_putI hX fw_X11_110 tb_88 (fun _ _ _ => ⟨Nat.le_of_ble_eq_true rfl, rfl⟩) dX11_rang_25 (fun w7 ew7 => ?_)
    replace hP := lt_r ew7 hP
    refine V_aload_n hX dX11_rang_28 0 rfl ?_
    refine V_aload_n hX dX11_rang_29 0 rfl ?_
    refine V_iload_n hX dX11_rang_30 1 rfl ?_
    obtain ⟨x9, w8, hcw8, hP⟩ := bnd_e hP
    refine V_callVi (As := [.int x1]) (rest := [rf S 88]) hX mk_X11_402 nk_X11_rangIn (fun l => c_X11_rangIn l S  hcw8) tb_88 rfl ⟨rfl, rfl, Nat.le_of_ble_eq_true rfl, Nat.le_of_ble_eq_true rfl⟩ rfl rfl (Nat.le_of_ble_eq_true rfl) dX11_rang_31 ?_
    obtain ⟨x11, w10, hcw10, hP⟩ := bnd_e hP
    refine V_callSi (As := [.int x9]) (rest := [rf S 88]) hX mk_X11_248 nk_J6_bitCount_0f7a4 (fun l => c_J6_bitCount_0f7a4 l S  hcw10) ⟨rfl, rfl, Nat.le_of_ble_eq_true rfl, Nat.le_of_ble_eq_true rfl⟩ rfl rfl (Nat.le_of_ble_eq_true rfl) dX11_rang_34 ?_
    refine V_i2l hX dX11_rang_37 ?_
    obtain ⟨w12, hcw12, hP⟩ := bnv_e hP
    refine V_callVv (As := [.long (Int32.toInt64 x11)]) (rest := []) hX mk_X11_316 nk_X11_enters (fun l => c_X11_enters l S  hcw12) tb_88 rfl ⟨rfl, rfl, Nat.le_of_ble_eq_true rfl, Nat.le_of_ble_eq_true rfl⟩ rfl rfl (Nat.le_of_ble_eq_true rfl) dX11_rang_38 ?_
    refine V_aload_n hX dX11_rang_41 0 rfl ?_
    refine V_iload_n hX dX11_rang_42 1 rfl ?_
    obtain ⟨x14, w13, hcw13, hP⟩ := bnd_e hP
    refine V_callVi (As := [.int x1]) (rest := []) hX mk_X11_402 nk_X11_rangIn (fun l => c_X11_rangIn l S  hcw13) tb_88 rfl ⟨rfl, rfl, Nat.le_of_ble_eq_true rfl, Nat.le_of_ble_eq_true rfl⟩ rfl rfl (Nat.le_of_ble_eq_true rfl) dX11_rang_43 ?_
    exact hR _ _ _ _ (Option.some.inj hP) rfl dX11_rang_46
  · replace hP := ite_t hc5 hP
    refine V_iconst (v := (-1)) hX dX11_rang_17 (by decide) ?_
    exact hR _ _ _ _ (Option.some.inj hP) rfl dX11_rang_18
theorem c_X11_rang (l : Launch) (S : Sx) {r : Int32 × Wd} {F : Nat} {w : Wd} {x1 : Int32}  (h : P_X11_rang F w x1 = some r) : Met l yX11_rang (wsg yX11_rang cX11_rang 2 (some .int)) rm_X11_rang (PC S w [rf S 88, .int x1]) (QCi S r) 0 0 (Aw S) :=
  met_i (by decide) rfl (Nat.le_of_ble_eq_true rfl) ⟨rfl, rfl⟩ (fun X hX hR => s_X11_rang  hX hR h)

-- MustNotStopModel.ask()I
abbrev rm_X11_ask : Room := { frames := 7, cells := 0, slots := 0, locals := 201 }
theorem nk_X11_ask : MNk yX11_ask RX11 0 := ⟨rfl, by decide, by decide, by decide +kernel⟩
def L_X11_ask_16 (F : Nat)  (k57 : Wd → Int32 → Int32 → Option (Int32 × Wd)) : Nat → Wd → Int32 → Int32 → Int32 → Option (Int32 × Wd)
  | 0, _, _, _, _ => none
  | n + 1, w, x3, x4, x5 => (if (6 : Int32) ≤ x5 then k57 w x3 x4 else bnd (P_X11_rangIn F w x5) (fun x10 w9 => bnd (P_J6_bitCount_0f7a4 F w9 x10) (fun x12 w11 => lt (if x12 ≤ x4 then x3 else x5 : Int32) (fun x14 => lt (maxI x4 x12 : Int32) (fun x15 => lt (x5 + 1 : Int32) (fun x16 => L_X11_ask_16 F  k57 n w11 x14 x15 x16))))))
set_option maxRecDepth 100000 in
set_option maxHeartbeats 4000000 in
theorem sL_X11_ask_16 {X : Cx} {S : Sx} {r : Int32 × Wd} {F : Nat}  {k57 : Wd → Int32 → Int32 → Option (Int32 × Wd)} (hX : Ok X S cX11_ask RX11 5 rm_X11_ask) (hR : HRt X S cX11_ask .int r)  (hk57 : ∀ (w : Wd) (x6 : Int32) (x7 : Int32) , k57 w x6 x7 = some r → V X S w 57 [(0, rf S 88), (1, .int x6), (2, .int x7)] []) : ∀ (n : Nat) (w : Wd) (x3 : Int32) (x4 : Int32) (x5 : Int32) , L_X11_ask_16 F  k57 n w x3 x4 x5 = some r → V X S w 16 [(0, rf S 88), (1, .int x3), (2, .int x4), (3, .int x5)] [] := by
  intro n
  induction n with
  | zero =>
    intro w x3 x4 x5  hP
    exact nn hP
  | succ n ih =>
    intro w x3 x4 x5  hP
    rw [L_X11_ask_16] at hP
    refine V_iload_n hX dX11_ask_16 3 rfl ?_
    refine V_bipush (v := 6) hX dX11_ask_17 (by decide) ?_
    refine V_icmp_ge (tgt := 57) hX dX11_ask_19 (by decide) (fun hc8 => ?_) (fun hc8 => ?_)
    · replace hP := ite_t hc8 hP
      refine V_sub (lv' := [(0, rf S 88), (1, .int x3), (2, .int x4)]) [0, 1, 2] rfl ?_
      exact hk57 _ _ _  hP
    · replace hP := ite_f hc8 hP
      refine V_aload_n hX dX11_ask_22 0 rfl ?_
      refine V_iload_n hX dX11_ask_23 3 rfl ?_
      obtain ⟨x10, w9, hcw9, hP⟩ := bnd_e hP
      refine V_callVi (As := [.int x5]) (rest := []) hX mk_X11_402 nk_X11_rangIn (fun l => c_X11_rangIn l S  hcw9) tb_88 rfl ⟨rfl, rfl, Nat.le_of_ble_eq_true rfl, Nat.le_of_ble_eq_true rfl⟩ rfl rfl (Nat.le_of_ble_eq_true rfl) dX11_ask_24 ?_
      obtain ⟨x12, w11, hcw11, hP⟩ := bnd_e hP
      refine V_callSi (As := [.int x10]) (rest := []) hX mk_X11_248 nk_J6_bitCount_0f7a4 (fun l => c_J6_bitCount_0f7a4 l S  hcw11) ⟨rfl, rfl, Nat.le_of_ble_eq_true rfl, Nat.le_of_ble_eq_true rfl⟩ rfl rfl (Nat.le_of_ble_eq_true rfl) dX11_ask_27 ?_
      refine V_istore (lv' := [(4, .int x12), (0, rf S 88), (1, .int x3), (2, .int x4), (3, .int x5)]) hX dX11_ask_30 (by decide) rfl ?_
      refine V_iload hX dX11_ask_32 0 rfl ?_
      refine V_iload_n hX dX11_ask_34 3 rfl ?_
      have k17 : V X S w11 43 [(4, .int x12), (0, rf S 88), (1, .int x3), (2, .int x4), (3, .int x5)] [.int (if x12 ≤ x4 then x3 else x5)] := by
        refine V_topi (fun x14 ex14 => ?_)
        replace hP := lt_r ex14 hP
        refine V_istore_n (lv' := [(1, .int x14), (4, .int x12), (0, rf S 88), (2, .int x4), (3, .int x5)]) hX dX11_ask_43 (by decide) rfl ?_
        refine V_iload_n hX dX11_ask_44 3 rfl ?_
        refine V_iload hX dX11_ask_45 1 rfl ?_
        refine V_max hX mk_X11_280 ⟨Nat.le_of_ble_eq_true rfl, Nat.le_of_ble_eq_true rfl⟩ dX11_ask_47 ?_
        refine V_topi (fun x15 ex15 => ?_)
        replace hP := lt_r ex15 hP
        refine V_istore_n (lv' := [(2, .int x15), (1, .int x14), (4, .int x12), (0, rf S 88), (3, .int x5)]) hX dX11_ask_50 (by decide) rfl ?_
        obtain ⟨x16, ex16⟩ : ∃ y : Int32, y = x5 + 1 := ⟨_, rfl⟩
        replace hP := lt_r ex16 hP
        refine V_iinc (v := x16) (lv' := [(3, .int x16), (2, .int x15), (1, .int x14), (4, .int x12), (0, rf S 88)]) hX dX11_ask_51 (j := 4) rfl (by decide) (by rw [ex16]; rfl) rfl ?_
        refine V_goto (tgt := 16) hX dX11_ask_54 (by decide) ?_
        refine V_sub (lv' := [(0, rf S 88), (1, .int x14), (2, .int x15), (3, .int x16)]) [4, 2, 1, 0] rfl ?_
        exact ih _ _ _ _  hP
      refine V_icmp_le (tgt := 42) hX dX11_ask_35 (by decide) (fun hc13 => ?_) (fun hc13 => ?_)
      · refine V_iload_n hX dX11_ask_42 2 rfl ?_
        refine V_selT (c := x12 ≤ x4) (b := x5) hc13 ?_
        exact k17
      · refine V_iload_n hX dX11_ask_38 4 rfl ?_
        refine V_goto (tgt := 43) hX dX11_ask_39 (by decide) ?_
        refine V_selF (c := x12 ≤ x4) (a := x3) hc13 ?_
        exact k17
def P_X11_ask (F : Nat) (w : Wd)  : Option (Int32 × Wd) := lt (sI w 88 0 0) (fun w1 => bnv (P_X11_laysRows F w1 ) (fun w2 => L_X11_ask_16 F  (fun w x6 x7 => (if (0 : Int32) ≤ x6 then lt (sI w 88 1 0) (fun w19 => bnv (P_X11_enters F w19 (Int32.toInt64 x7)) (fun w20 => some (x6, w20))) else some ((-2), w))) F w2 ((-2)) 0 0))
set_option maxRecDepth 100000 in
set_option maxHeartbeats 4000000 in
theorem s_X11_ask {X : Cx} {S : Sx} {r : Int32 × Wd} {F : Nat} {w : Wd}   (hX : Ok X S cX11_ask RX11 5 rm_X11_ask) (hR : HRt X S cX11_ask .int r) (hP : P_X11_ask F w  = some r) : V X S w 0 [(0, rf S 88)] [] := by
  unfold P_X11_ask at hP
  refine V_aload_n hX dX11_ask_0 0 rfl ?_
  refine V_iconst (v := 0) hX dX11_ask_1 (by decide) ?_
  refine V_putI hX fw_X11_102 tb_88 (fun _ _ _ => ⟨Nat.le_of_ble_eq_true rfl, rfl⟩) dX11_ask_2 (fun w1 ew1 => ?_)
  replace hP := lt_r ew1 hP
  refine V_aload_n hX dX11_ask_5 0 rfl ?_
  obtain ⟨w2, hcw2, hP⟩ := bnv_e hP
  refine V_callVv (As := []) (rest := []) hX mk_X11_399 nk_X11_laysRows (fun l => c_X11_laysRows l S  hcw2) tb_88 rfl ⟨rfl, rfl, Nat.le_of_ble_eq_true rfl, Nat.le_of_ble_eq_true rfl⟩ rfl rfl (Nat.le_of_ble_eq_true rfl) dX11_ask_6 ?_
  refine V_bipush (v := (-2)) hX dX11_ask_9 (by decide) ?_
  refine V_istore_n (lv' := [(1, .int ((-2))), (0, rf S 88)]) hX dX11_ask_11 (by decide) rfl ?_
  refine V_iconst (v := 0) hX dX11_ask_12 (by decide) ?_
  refine V_istore_n (lv' := [(2, .int 0), (1, .int ((-2))), (0, rf S 88)]) hX dX11_ask_13 (by decide) rfl ?_
  refine V_iconst (v := 0) hX dX11_ask_14 (by decide) ?_
  refine V_istore_n (lv' := [(3, .int 0), (2, .int 0), (1, .int ((-2))), (0, rf S 88)]) hX dX11_ask_15 (by decide) rfl ?_
  refine V_sub (lv' := [(0, rf S 88), (1, .int ((-2))), (2, .int 0), (3, .int 0)]) [3, 2, 1, 0] rfl ?_
  have k21 : ∀ (w : Wd) (x6 : Int32) (x7 : Int32) , ((if (0 : Int32) ≤ x6 then lt (sI w 88 1 0) (fun w19 => bnv (P_X11_enters F w19 (Int32.toInt64 x7)) (fun w20 => some (x6, w20))) else some ((-2), w))) = some r → V X S w 57 [(0, rf S 88), (1, .int x6), (2, .int x7)] [] := by
    intro w x6 x7  hP
    refine V_iload_n hX dX11_ask_57 1 rfl ?_
    refine V_if_ge (tgt := 64) hX dX11_ask_58 (by decide) (fun hc18 => ?_) (fun hc18 => ?_)
    · replace hP := ite_t hc18 hP
      refine V_aload_n hX dX11_ask_64 0 rfl ?_
      refine V_iconst (v := 0) hX dX11_ask_65 (by decide) ?_
      refine V_putI hX fw_X11_110 tb_88 (fun _ _ _ => ⟨Nat.le_of_ble_eq_true rfl, rfl⟩) dX11_ask_66 (fun w19 ew19 => ?_)
      replace hP := lt_r ew19 hP
      refine V_aload_n hX dX11_ask_69 0 rfl ?_
      refine V_iload_n hX dX11_ask_70 2 rfl ?_
      refine V_i2l hX dX11_ask_71 ?_
      obtain ⟨w20, hcw20, hP⟩ := bnv_e hP
      refine V_callVv (As := [.long (Int32.toInt64 x7)]) (rest := []) hX mk_X11_316 nk_X11_enters (fun l => c_X11_enters l S  hcw20) tb_88 rfl ⟨rfl, rfl, Nat.le_of_ble_eq_true rfl, Nat.le_of_ble_eq_true rfl⟩ rfl rfl (Nat.le_of_ble_eq_true rfl) dX11_ask_72 ?_
      refine V_iload_n hX dX11_ask_75 1 rfl ?_
      exact hR _ _ _ _ (Option.some.inj hP) rfl dX11_ask_76
    · replace hP := ite_f hc18 hP
      refine V_bipush (v := (-2)) hX dX11_ask_61 (by decide) ?_
      exact hR _ _ _ _ (Option.some.inj hP) rfl dX11_ask_63
  exact sL_X11_ask_16 hX hR  k21 F _ _ _ _  hP
theorem c_X11_ask (l : Launch) (S : Sx) {r : Int32 × Wd} {F : Nat} {w : Wd}   (h : P_X11_ask F w  = some r) : Met l yX11_ask (wsg yX11_ask cX11_ask 5 (some .int)) rm_X11_ask (PC S w [rf S 88]) (QCi S r) 0 0 (Aw S) :=
  met_i (by decide) rfl (Nat.le_of_ble_eq_true rfl) ⟨rfl, rfl⟩ (fun X hX hR => s_X11_ask  hX hR h)

-- MustNotStopModel.bets(I)V
abbrev rm_X11_bets : Room := { frames := 7, cells := 0, slots := 0, locals := 196 }
theorem nk_X11_bets : MNk yX11_bets RX11 1 := ⟨rfl, by decide, by decide, by decide +kernel⟩
def L_X11_bets_16 (F : Nat) (x1 : Int32) (k44 : Wd → Int64 → Option (Wd)) : Nat → Wd → Int64 → Int32 → Option (Wd)
  | 0, _, _, _ => none
  | n + 1, w, x7, x8 => (if x8 ≤ 0 then k44 w x7 else lt (sJ w 88 44 ((gJ w 88 44) * 10)) (fun w11 => lt (x7 * (Int32.toInt64 x1) : Int64) (fun x12 => lt (x8 + (-1) : Int32) (fun x13 => L_X11_bets_16 F x1 k44 n w11 x12 x13))))
set_option maxRecDepth 100000 in
set_option maxHeartbeats 4000000 in
theorem sL_X11_bets_16 {X : Cx} {S : Sx} {r : Wd} {F : Nat} {x1 : Int32} {k44 : Wd → Int64 → Option (Wd)} (hX : Ok X S cX11_bets RX11 5 rm_X11_bets) (hR : HRv X S cX11_bets r)  (hk44 : ∀ (w : Wd) (x9 : Int64) , k44 w x9 = some r → V X S w 44 [(0, rf S 88), (2, .long x9)] []) : ∀ (n : Nat) (w : Wd) (x7 : Int64) (x8 : Int32) , L_X11_bets_16 F x1 k44 n w x7 x8 = some r → V X S w 16 [(0, rf S 88), (1, .int x1), (2, .long x7), (4, .int x8)] [] := by
  intro n
  induction n with
  | zero =>
    intro w x7 x8  hP
    exact nn hP
  | succ n ih =>
    intro w x7 x8  hP
    rw [L_X11_bets_16] at hP
    refine V_iload hX dX11_bets_16 3 rfl ?_
    refine V_if_le (tgt := 44) hX dX11_bets_18 (by decide) (fun hc10 => ?_) (fun hc10 => ?_)
    · replace hP := ite_t hc10 hP
      refine V_sub (lv' := [(0, rf S 88), (2, .long x7)]) [0, 2] rfl ?_
      exact hk44 _ _  hP
    · replace hP := ite_f hc10 hP
      refine V_aload_n hX dX11_bets_21 0 rfl ?_
      refine V_dup hX dX11_bets_22 rfl ?_
      refine V_getJ hX fk_X11_405 tb_88 (fun _ _ _ => rfl) dX11_bets_23 ?_
      refine V_ldc2 (v := 10) hX dX11_bets_26 cn_X11_409 ?_
      refine V_lmul hX dX11_bets_29 ?_
      refine V_putJ hX fw_X11_405 tb_88 (fun _ _ _ => ⟨Nat.le_of_ble_eq_true rfl, rfl⟩) dX11_bets_30 (fun w11 ew11 => ?_)
      replace hP := lt_r ew11 hP
      refine V_lload_n hX dX11_bets_33 2 rfl ?_
      refine V_iload_n hX dX11_bets_34 1 rfl ?_
      refine V_i2l hX dX11_bets_35 ?_
      refine V_lmul hX dX11_bets_36 ?_
      refine V_topl (fun x12 ex12 => ?_)
      replace hP := lt_r ex12 hP
      refine V_lstore_n (lv' := [(2, .long x12), (0, rf S 88), (1, .int x1), (4, .int x8)]) hX dX11_bets_37 (by decide) rfl ?_
      obtain ⟨x13, ex13⟩ : ∃ y : Int32, y = x8 + (-1) := ⟨_, rfl⟩
      replace hP := lt_r ex13 hP
      refine V_iinc (v := x13) (lv' := [(4, .int x13), (2, .long x12), (0, rf S 88), (1, .int x1)]) hX dX11_bets_38 (j := 3) rfl (by decide) (by rw [ex13]; rfl) rfl ?_
      refine V_goto (tgt := 16) hX dX11_bets_41 (by decide) ?_
      refine V_sub (lv' := [(0, rf S 88), (1, .int x1), (2, .long x12), (4, .int x13)]) [2, 3, 1, 0] rfl ?_
      exact ih _ _ _  hP
def P_X11_bets (F : Nat) (w : Wd) (x1 : Int32) : Option (Wd) := lt (sJ w 88 44 1) (fun w2 => bnd (P_X11_able F w2 ) (fun x4 w3 => bnd (P_J6_bitCount_0f7a4 F w3 x4) (fun x6 w5 => L_X11_bets_16 F x1 (fun w x9 => lt (sJ w 88 43 ((gJ w 88 44) - x9)) (fun w14 => some w14)) F w5 1 x6)))
set_option maxRecDepth 100000 in
set_option maxHeartbeats 4000000 in
theorem s_X11_bets {X : Cx} {S : Sx} {r : Wd} {F : Nat} {w : Wd} {x1 : Int32}  (hX : Ok X S cX11_bets RX11 5 rm_X11_bets) (hR : HRv X S cX11_bets r) (hP : P_X11_bets F w x1 = some r) : V X S w 0 [(0, rf S 88), (1, .int x1)] [] := by
  unfold P_X11_bets at hP
  refine V_aload_n hX dX11_bets_0 0 rfl ?_
  refine V_lconst (v := 1) hX dX11_bets_1 rfl ?_
  refine V_putJ hX fw_X11_405 tb_88 (fun _ _ _ => ⟨Nat.le_of_ble_eq_true rfl, rfl⟩) dX11_bets_2 (fun w2 ew2 => ?_)
  replace hP := lt_r ew2 hP
  refine V_lconst (v := 1) hX dX11_bets_5 rfl ?_
  refine V_lstore_n (lv' := [(2, .long 1), (0, rf S 88), (1, .int x1)]) hX dX11_bets_6 (by decide) rfl ?_
  refine V_aload_n hX dX11_bets_7 1 rfl ?_
  obtain ⟨x4, w3, hcw3, hP⟩ := bnd_e hP
  refine V_callVi (As := []) (rest := []) hX mk_X11_384 nk_X11_able (fun l => c_X11_able l S  hcw3) tb_88 rfl ⟨rfl, rfl, Nat.le_of_ble_eq_true rfl, Nat.le_of_ble_eq_true rfl⟩ rfl rfl (Nat.le_of_ble_eq_true rfl) dX11_bets_8 ?_
  obtain ⟨x6, w5, hcw5, hP⟩ := bnd_e hP
  refine V_callSi (As := [.int x4]) (rest := []) hX mk_X11_248 nk_J6_bitCount_0f7a4 (fun l => c_J6_bitCount_0f7a4 l S  hcw5) ⟨rfl, rfl, Nat.le_of_ble_eq_true rfl, Nat.le_of_ble_eq_true rfl⟩ rfl rfl (Nat.le_of_ble_eq_true rfl) dX11_bets_11 ?_
  refine V_istore (lv' := [(4, .int x6), (2, .long 1), (0, rf S 88), (1, .int x1)]) hX dX11_bets_14 (by decide) rfl ?_
  refine V_sub (lv' := [(0, rf S 88), (1, .int x1), (2, .long 1), (4, .int x6)]) [2, 3, 1, 0] rfl ?_
  have k15 : ∀ (w : Wd) (x9 : Int64) , (lt (sJ w 88 43 ((gJ w 88 44) - x9)) (fun w14 => some w14)) = some r → V X S w 44 [(0, rf S 88), (2, .long x9)] [] := by
    intro w x9  hP
    refine V_aload_n hX dX11_bets_44 0 rfl ?_
    refine V_aload_n hX dX11_bets_45 0 rfl ?_
    refine V_getJ hX fk_X11_405 tb_88 (fun _ _ _ => rfl) dX11_bets_46 ?_
    refine V_lload_n hX dX11_bets_49 1 rfl ?_
    refine V_lsub hX dX11_bets_50 ?_
    refine V_putJ hX fw_X11_411 tb_88 (fun _ _ _ => ⟨Nat.le_of_ble_eq_true rfl, rfl⟩) dX11_bets_51 (fun w14 ew14 => ?_)
    replace hP := lt_r ew14 hP
    exact hR _ _ _ (Option.some.inj hP) dX11_bets_54
  exact sL_X11_bets_16 hX hR  k15 F _ _ _  hP
theorem c_X11_bets (l : Launch) (S : Sx) {r : Wd} {F : Nat} {w : Wd} {x1 : Int32}  (h : P_X11_bets F w x1 = some r) : Met l yX11_bets (wsg yX11_bets cX11_bets 5 none) rm_X11_bets (PC S w [rf S 88, .int x1]) (QCv S r) 0 0 (Aw S) :=
  met_v (by decide) rfl (Nat.le_of_ble_eq_true rfl) ⟨rfl, rfl⟩ (fun X hX hR => s_X11_bets  hX hR h)

-- MustNotStopModel.sick(I)I
abbrev rm_X11_sick : Room := { frames := 151, cells := 0, slots := 0, locals := 13523 }
theorem nk_X11_sick : MNk yX11_sick RX11 1 := ⟨rfl, by decide, by decide, by decide +kernel⟩
def P_X11_sick (F : Nat) (w : Wd) (x1 : Int32) : Option (Int32 × Wd) := lt (sI w 88 0 0) (fun w2 => bnd (P_X11_in F w2 (Int32.toInt64 x1) 0 10) (fun x4 w3 => (if x4 = 0 then some ((-1), w3) else bnv (P_X11_bets F w3 x1) (fun w6 => bnd (P_X11_common F w6 (gJ w6 88 43) (gJ w6 88 44)) (fun x8 w7 => lt (sI w7 88 1 0) (fun w9 => gd (neZL x8) (bnv (P_X11_enters F w9 ((gJ w9 88 43) / x8)) (fun w11 => gd (neZL x8) (bnv (P_X11_enters F w11 ((gJ w11 88 44) / x8)) (fun w13 => some (0, w13)))))))))))
set_option maxRecDepth 100000 in
set_option maxHeartbeats 4000000 in
theorem s_X11_sick {X : Cx} {S : Sx} {r : Int32 × Wd} {F : Nat} {w : Wd} {x1 : Int32}  (hX : Ok X S cX11_sick RX11 4 rm_X11_sick) (hR : HRt X S cX11_sick .int r) (hP : P_X11_sick F w x1 = some r) : V X S w 0 [(0, rf S 88), (1, .int x1)] [] := by
  unfold P_X11_sick at hP
  refine V_aload_n hX dX11_sick_0 0 rfl ?_
  refine V_iconst (v := 0) hX dX11_sick_1 (by decide) ?_
  refine V_putI hX fw_X11_102 tb_88 (fun _ _ _ => ⟨Nat.le_of_ble_eq_true rfl, rfl⟩) dX11_sick_2 (fun w2 ew2 => ?_)
  replace hP := lt_r ew2 hP
  refine V_iload_n hX dX11_sick_5 1 rfl ?_
  refine V_i2l hX dX11_sick_6 ?_
  refine V_lconst (v := 0) hX dX11_sick_7 rfl ?_
  refine V_ldc2 (v := 10) hX dX11_sick_8 cn_X11_409 ?_
  obtain ⟨x4, w3, hcw3, hP⟩ := bnd_e hP
  refine V_callSi (As := [.long (Int32.toInt64 x1), .long 0, .long 10]) (rest := []) hX mk_X11_116 nk_X11_in (fun l => c_X11_in l S  hcw3) ⟨rfl, rfl, Nat.le_of_ble_eq_true rfl, Nat.le_of_ble_eq_true rfl⟩ rfl rfl (Nat.le_of_ble_eq_true rfl) dX11_sick_11 ?_
  refine V_if_ne (tgt := 19) hX dX11_sick_14 (by decide) (fun hc5 => ?_) (fun hc5 => ?_)
  · replace hP := ite_f hc5 hP
    refine V_aload_n hX dX11_sick_19 0 rfl ?_
    refine V_iload_n hX dX11_sick_20 1 rfl ?_
    obtain ⟨w6, hcw6, hP⟩ := bnv_e hP
    refine V_callVv (As := [.int x1]) (rest := []) hX mk_X11_414 nk_X11_bets (fun l => c_X11_bets l S  hcw6) tb_88 rfl ⟨rfl, rfl, Nat.le_of_ble_eq_true rfl, Nat.le_of_ble_eq_true rfl⟩ rfl rfl (Nat.le_of_ble_eq_true rfl) dX11_sick_21 ?_
    refine V_aload_n hX dX11_sick_24 0 rfl ?_
    refine V_getJ hX fk_X11_411 tb_88 (fun _ _ _ => rfl) dX11_sick_25 ?_
    refine V_aload_n hX dX11_sick_28 0 rfl ?_
    refine V_getJ hX fk_X11_405 tb_88 (fun _ _ _ => rfl) dX11_sick_29 ?_
    obtain ⟨x8, w7, hcw7, hP⟩ := bnd_e hP
    refine V_callSl (As := [.long (gJ w6 88 43), .long (gJ w6 88 44)]) (rest := []) hX mk_X11_106 nk_X11_common (fun l => c_X11_common l S  hcw7) ⟨rfl, rfl, Nat.le_of_ble_eq_true rfl, Nat.le_of_ble_eq_true rfl⟩ rfl rfl (Nat.le_of_ble_eq_true rfl) dX11_sick_32 ?_
    refine V_lstore_n (lv' := [(2, .long x8), (0, rf S 88), (1, .int x1)]) hX dX11_sick_35 (by decide) rfl ?_
    refine V_aload_n hX dX11_sick_36 1 rfl ?_
    refine V_iconst (v := 0) hX dX11_sick_37 (by decide) ?_
    refine V_putI hX fw_X11_110 tb_88 (fun _ _ _ => ⟨Nat.le_of_ble_eq_true rfl, rfl⟩) dX11_sick_38 (fun w9 ew9 => ?_)
    replace hP := lt_r ew9 hP
    refine V_aload_n hX dX11_sick_41 1 rfl ?_
    refine V_aload_n hX dX11_sick_42 1 rfl ?_
    refine V_getJ hX fk_X11_411 tb_88 (fun _ _ _ => rfl) dX11_sick_43 ?_
    refine V_lload_n hX dX11_sick_46 0 rfl ?_
    obtain ⟨hz10, hP⟩ := gd_e hP
    refine V_ldiv hX dX11_sick_47 hz10 ?_
    obtain ⟨w11, hcw11, hP⟩ := bnv_e hP
    refine V_callVv (As := [.long ((gJ w9 88 43) / x8)]) (rest := []) hX mk_X11_316 nk_X11_enters (fun l => c_X11_enters l S  hcw11) tb_88 rfl ⟨rfl, rfl, Nat.le_of_ble_eq_true rfl, Nat.le_of_ble_eq_true rfl⟩ rfl rfl (Nat.le_of_ble_eq_true rfl) dX11_sick_48 ?_
    refine V_aload_n hX dX11_sick_51 1 rfl ?_
    refine V_aload_n hX dX11_sick_52 1 rfl ?_
    refine V_getJ hX fk_X11_405 tb_88 (fun _ _ _ => rfl) dX11_sick_53 ?_
    refine V_lload_n hX dX11_sick_56 0 rfl ?_
    obtain ⟨hz12, hP⟩ := gd_e hP
    refine V_ldiv hX dX11_sick_57 hz12 ?_
    obtain ⟨w13, hcw13, hP⟩ := bnv_e hP
    refine V_callVv (As := [.long ((gJ w11 88 44) / x8)]) (rest := []) hX mk_X11_316 nk_X11_enters (fun l => c_X11_enters l S  hcw13) tb_88 rfl ⟨rfl, rfl, Nat.le_of_ble_eq_true rfl, Nat.le_of_ble_eq_true rfl⟩ rfl rfl (Nat.le_of_ble_eq_true rfl) dX11_sick_58 ?_
    refine V_iconst (v := 0) hX dX11_sick_61 (by decide) ?_
    exact hR _ _ _ _ (Option.some.inj hP) rfl dX11_sick_62
  · replace hP := ite_t hc5 hP
    refine V_iconst (v := (-1)) hX dX11_sick_17 (by decide) ?_
    exact hR _ _ _ _ (Option.some.inj hP) rfl dX11_sick_18
theorem c_X11_sick (l : Launch) (S : Sx) {r : Int32 × Wd} {F : Nat} {w : Wd} {x1 : Int32}  (h : P_X11_sick F w x1 = some r) : Met l yX11_sick (wsg yX11_sick cX11_sick 4 (some .int)) rm_X11_sick (PC S w [rf S 88, .int x1]) (QCi S r) 0 0 (Aw S) :=
  met_i (by decide) rfl (Nat.le_of_ble_eq_true rfl) ⟨rfl, rfl⟩ (fun X hX hR => s_X11_sick  hX hR h)

-- MustNotStopModel.risk(I)I
abbrev rm_X11_risk : Room := { frames := 8, cells := 0, slots := 0, locals := 220 }
theorem nk_X11_risk : MNk yX11_risk RX11 1 := ⟨rfl, by decide, by decide, by decide +kernel⟩
def L_X11_risk_27 (F : Nat) (x1 : Int32) (k86 : Wd → Int32 → Option (Int32 × Wd)) : Nat → Wd → Int32 → Int32 → Int32 → Option (Int32 × Wd)
  | 0, _, _, _, _ => none
  | n + 1, w, x6, x7, x8 => (if (10 : Int32) < x8 then k86 w x6 else (if x7 = 0 then k86 w x6 else bnv (P_X11_bets F w x8) (fun w12 => lt (if (lg_cmp (100 * (gJ w12 88 43)) ((Int32.toInt64 x1) * (gJ w12 88 44))) < 0 then 0 else 1 : Int32) (fun x14 => lt (if x14 = 0 then x6 else x8 : Int32) (fun x16 => lt (x8 + 1 : Int32) (fun x17 => L_X11_risk_27 F x1 k86 n w12 x16 x14 x17))))))
set_option maxRecDepth 100000 in
set_option maxHeartbeats 4000000 in
theorem sL_X11_risk_27 {X : Cx} {S : Sx} {r : Int32 × Wd} {F : Nat} {x1 : Int32} {k86 : Wd → Int32 → Option (Int32 × Wd)} (hX : Ok X S cX11_risk RX11 5 rm_X11_risk) (hR : HRt X S cX11_risk .int r)  (hk86 : ∀ (w : Wd) (x9 : Int32) , k86 w x9 = some r → V X S w 86 [(2, .int x9)] []) : ∀ (n : Nat) (w : Wd) (x6 : Int32) (x7 : Int32) (x8 : Int32) , L_X11_risk_27 F x1 k86 n w x6 x7 x8 = some r → V X S w 27 [(0, rf S 88), (1, .int x1), (2, .int x6), (3, .int x7), (4, .int x8)] [] := by
  intro n
  induction n with
  | zero =>
    intro w x6 x7 x8  hP
    exact nn hP
  | succ n ih =>
    intro w x6 x7 x8  hP
    rw [L_X11_risk_27] at hP
    refine V_iload hX dX11_risk_27 4 rfl ?_
    refine V_bipush (v := 10) hX dX11_risk_29 (by decide) ?_
    refine V_icmp_gt (tgt := 86) hX dX11_risk_31 (by decide) (fun hc10 => ?_) (fun hc10 => ?_)
    · replace hP := ite_t hc10 hP
      refine V_sub (lv' := [(2, .int x6)]) [2] rfl ?_
      exact hk86 _ _  hP
    · replace hP := ite_f hc10 hP
      refine V_iload_n hX dX11_risk_34 3 rfl ?_
      refine V_if_eq (tgt := 86) hX dX11_risk_35 (by decide) (fun hc11 => ?_) (fun hc11 => ?_)
      · replace hP := ite_t hc11 hP
        refine V_sub (lv' := [(2, .int x6)]) [2] rfl ?_
        exact hk86 _ _  hP
      · replace hP := ite_f hc11 hP
        refine V_aload_n hX dX11_risk_38 0 rfl ?_
        refine V_iload hX dX11_risk_39 4 rfl ?_
        obtain ⟨w12, hcw12, hP⟩ := bnv_e hP
        refine V_callVv (As := [.int x8]) (rest := []) hX mk_X11_414 nk_X11_bets (fun l => c_X11_bets l S  hcw12) tb_88 rfl ⟨rfl, rfl, Nat.le_of_ble_eq_true rfl, Nat.le_of_ble_eq_true rfl⟩ rfl rfl (Nat.le_of_ble_eq_true rfl) dX11_risk_41 ?_
        refine V_ldc2 (v := 100) hX dX11_risk_44 cn_X11_417 ?_
        refine V_aload_n hX dX11_risk_47 0 rfl ?_
        refine V_getJ hX fk_X11_411 tb_88 (fun _ _ _ => rfl) dX11_risk_48 ?_
        refine V_lmul hX dX11_risk_51 ?_
        refine V_iload_n hX dX11_risk_52 1 rfl ?_
        refine V_i2l hX dX11_risk_53 ?_
        refine V_aload_n hX dX11_risk_54 0 rfl ?_
        refine V_getJ hX fk_X11_405 tb_88 (fun _ _ _ => rfl) dX11_risk_55 ?_
        refine V_lmul hX dX11_risk_58 ?_
        refine V_lcmp hX dX11_risk_59 ?_
        have k19 : V X S w12 68 [(0, rf S 88), (1, .int x1), (2, .int x6), (3, .int x7), (4, .int x8)] [.int (if (lg_cmp (100 * (gJ w12 88 43)) ((Int32.toInt64 x1) * (gJ w12 88 44))) < 0 then 0 else 1)] := by
          refine V_topi (fun x14 ex14 => ?_)
          replace hP := lt_r ex14 hP
          refine V_istore_n (lv' := [(3, .int x14), (0, rf S 88), (1, .int x1), (2, .int x6), (4, .int x8)]) hX dX11_risk_68 (by decide) rfl ?_
          refine V_iload_n hX dX11_risk_69 0 rfl ?_
          have k18 : V X S w12 79 [(3, .int x14), (0, rf S 88), (1, .int x1), (2, .int x6), (4, .int x8)] [.int (if x14 = 0 then x6 else x8)] := by
            refine V_topi (fun x16 ex16 => ?_)
            replace hP := lt_r ex16 hP
            refine V_istore_n (lv' := [(2, .int x16), (3, .int x14), (0, rf S 88), (1, .int x1), (4, .int x8)]) hX dX11_risk_79 (by decide) rfl ?_
            obtain ⟨x17, ex17⟩ : ∃ y : Int32, y = x8 + 1 := ⟨_, rfl⟩
            replace hP := lt_r ex17 hP
            refine V_iinc (v := x17) (lv' := [(4, .int x17), (2, .int x16), (3, .int x14), (0, rf S 88), (1, .int x1)]) hX dX11_risk_80 (j := 4) rfl (by decide) (by rw [ex17]; rfl) rfl ?_
            refine V_goto (tgt := 27) hX dX11_risk_83 (by decide) ?_
            refine V_sub (lv' := [(0, rf S 88), (1, .int x1), (2, .int x16), (3, .int x14), (4, .int x17)]) [3, 4, 1, 2, 0] rfl ?_
            exact ih _ _ _ _  hP
          refine V_if_eq (tgt := 78) hX dX11_risk_70 (by decide) (fun hc15 => ?_) (fun hc15 => ?_)
          · refine V_iload_n hX dX11_risk_78 3 rfl ?_
            refine V_selT (c := x14 = 0) (b := x8) hc15 ?_
            exact k18
          · refine V_iload hX dX11_risk_73 4 rfl ?_
            refine V_goto (tgt := 79) hX dX11_risk_75 (by decide) ?_
            refine V_selF (c := x14 = 0) (a := x6) hc15 ?_
            exact k18
        refine V_if_lt (tgt := 67) hX dX11_risk_60 (by decide) (fun hc13 => ?_) (fun hc13 => ?_)
        · refine V_iconst (v := 0) hX dX11_risk_67 (by decide) ?_
          refine V_selT (c := (lg_cmp (100 * (gJ w12 88 43)) ((Int32.toInt64 x1) * (gJ w12 88 44))) < 0) (b := 1) hc13 ?_
          exact k19
        · refine V_iconst (v := 1) hX dX11_risk_63 (by decide) ?_
          refine V_goto (tgt := 68) hX dX11_risk_64 (by decide) ?_
          refine V_selF (c := (lg_cmp (100 * (gJ w12 88 43)) ((Int32.toInt64 x1) * (gJ w12 88 44))) < 0) (a := 0) hc13 ?_
          exact k19
def P_X11_risk (F : Nat) (w : Wd) (x1 : Int32) : Option (Int32 × Wd) := lt (sI w 88 0 0) (fun w2 => bnd (P_X11_in F w2 (Int32.toInt64 x1) 0 100) (fun x4 w3 => (if x4 = 0 then some ((-1), w3) else L_X11_risk_27 F x1 (fun w x9 => some (x9, w)) F w3 ((-2)) 1 0)))
set_option maxRecDepth 100000 in
set_option maxHeartbeats 4000000 in
theorem s_X11_risk {X : Cx} {S : Sx} {r : Int32 × Wd} {F : Nat} {w : Wd} {x1 : Int32}  (hX : Ok X S cX11_risk RX11 5 rm_X11_risk) (hR : HRt X S cX11_risk .int r) (hP : P_X11_risk F w x1 = some r) : V X S w 0 [(0, rf S 88), (1, .int x1)] [] := by
  unfold P_X11_risk at hP
  refine V_aload_n hX dX11_risk_0 0 rfl ?_
  refine V_iconst (v := 0) hX dX11_risk_1 (by decide) ?_
  refine V_putI hX fw_X11_102 tb_88 (fun _ _ _ => ⟨Nat.le_of_ble_eq_true rfl, rfl⟩) dX11_risk_2 (fun w2 ew2 => ?_)
  replace hP := lt_r ew2 hP
  refine V_iload_n hX dX11_risk_5 1 rfl ?_
  refine V_i2l hX dX11_risk_6 ?_
  refine V_lconst (v := 0) hX dX11_risk_7 rfl ?_
  refine V_ldc2 (v := 100) hX dX11_risk_8 cn_X11_417 ?_
  obtain ⟨x4, w3, hcw3, hP⟩ := bnd_e hP
  refine V_callSi (As := [.long (Int32.toInt64 x1), .long 0, .long 100]) (rest := []) hX mk_X11_116 nk_X11_in (fun l => c_X11_in l S  hcw3) ⟨rfl, rfl, Nat.le_of_ble_eq_true rfl, Nat.le_of_ble_eq_true rfl⟩ rfl rfl (Nat.le_of_ble_eq_true rfl) dX11_risk_11 ?_
  refine V_if_ne (tgt := 19) hX dX11_risk_14 (by decide) (fun hc5 => ?_) (fun hc5 => ?_)
  · replace hP := ite_f hc5 hP
    refine V_bipush (v := (-2)) hX dX11_risk_19 (by decide) ?_
    refine V_istore_n (lv' := [(2, .int ((-2))), (0, rf S 88), (1, .int x1)]) hX dX11_risk_21 (by decide) rfl ?_
    refine V_iconst (v := 1) hX dX11_risk_22 (by decide) ?_
    refine V_istore_n (lv' := [(3, .int 1), (2, .int ((-2))), (0, rf S 88), (1, .int x1)]) hX dX11_risk_23 (by decide) rfl ?_
    refine V_iconst (v := 0) hX dX11_risk_24 (by decide) ?_
    refine V_istore (lv' := [(4, .int 0), (3, .int 1), (2, .int ((-2))), (0, rf S 88), (1, .int x1)]) hX dX11_risk_25 (by decide) rfl ?_
    refine V_sub (lv' := [(0, rf S 88), (1, .int x1), (2, .int ((-2))), (3, .int 1), (4, .int 0)]) [3, 4, 2, 1, 0] rfl ?_
    have k20 : ∀ (w : Wd) (x9 : Int32) , (some (x9, w)) = some r → V X S w 86 [(2, .int x9)] [] := by
      intro w x9  hP
      refine V_iload_n hX dX11_risk_86 0 rfl ?_
      exact hR _ _ _ _ (Option.some.inj hP) rfl dX11_risk_87
    exact sL_X11_risk_27 hX hR  k20 F _ _ _ _  hP
  · replace hP := ite_t hc5 hP
    refine V_iconst (v := (-1)) hX dX11_risk_17 (by decide) ?_
    exact hR _ _ _ _ (Option.some.inj hP) rfl dX11_risk_18
theorem c_X11_risk (l : Launch) (S : Sx) {r : Int32 × Wd} {F : Nat} {w : Wd} {x1 : Int32}  (h : P_X11_risk F w x1 = some r) : Met l yX11_risk (wsg yX11_risk cX11_risk 5 (some .int)) rm_X11_risk (PC S w [rf S 88, .int x1]) (QCi S r) 0 0 (Aw S) :=
  met_i (by decide) rfl (Nat.le_of_ble_eq_true rfl) ⟨rfl, rfl⟩ (fun X hX hR => s_X11_risk  hX hR h)

-- MustNotStopModel.offers(II)I
theorem nk_X11_offers : MNk yX11_offers RX11 2 := ⟨rfl, by decide, by decide, by decide +kernel⟩
def B_X11_offers (F : Nat) (g_X11_offers : Wd → Int32 → Int32 → Option (Int32 × Wd)) (w : Wd) (x1 : Int32) (x2 : Int32) : Option (Int32 × Wd) := (if x2 = 1 then some (x1, w) else bnd (g_X11_offers w (maxI 0 (x1 - 1)) (x2 - 1)) (fun x5 w4 => some (x1 - x5, w4)))
set_option maxRecDepth 100000 in
set_option maxHeartbeats 4000000 in
theorem s_X11_offers {X : Cx} {S : Sx} {rm rmc : Room} {r : Int32 × Wd} {F : Nat} {g_X11_offers : Wd → Int32 → Int32 → Option (Int32 × Wd)} {w : Wd} {x1 : Int32} {x2 : Int32}  (hX : Ok X S cX11_offers RX11 2 rm) (hR : HRt X S cX11_offers .int r ∧ RMr rm rmc) (hg_X11_offers : ∀ (l : Launch) (w : Wd) (x1 : Int32) (x2 : Int32) (r : Int32 × Wd) , g_X11_offers w x1 x2 = some r → Met l yX11_offers (wsg yX11_offers cX11_offers 2 (some .int)) rmc (PC S w [.int x1, .int x2]) (QCi S r) 0 0 (Aw S)) (hP : B_X11_offers F g_X11_offers w x1 x2 = some r) : V X S w 0 [(0, .int x1), (1, .int x2)] [] := by
  unfold B_X11_offers at hP
  refine V_iload_n hX dX11_offers_0 1 rfl ?_
  refine V_iconst (v := 1) hX dX11_offers_1 (by decide) ?_
  refine V_icmp_ne (tgt := 9) hX dX11_offers_2 (by decide) (fun hc3 => ?_) (fun hc3 => ?_)
  · replace hP := ite_f hc3 hP
    refine V_iload_n hX dX11_offers_9 0 rfl ?_
    refine V_iconst (v := 0) hX dX11_offers_10 (by decide) ?_
    refine V_iload_n hX dX11_offers_11 0 rfl ?_
    refine V_iconst (v := 1) hX dX11_offers_12 (by decide) ?_
    refine V_isub hX dX11_offers_13 ?_
    refine V_max hX mk_X11_280 (rm_math hR.2 (Nat.le_of_ble_eq_true rfl)) dX11_offers_14 ?_
    refine V_iload_n hX dX11_offers_17 1 rfl ?_
    refine V_iconst (v := 1) hX dX11_offers_18 (by decide) ?_
    refine V_isub hX dX11_offers_19 ?_
    obtain ⟨x5, w4, hcw4, hP⟩ := bnd_e hP
    refine V_callSi (As := [.int (maxI 0 (x1 - 1)), .int (x2 - 1)]) (rest := [.int x1]) hX mk_X11_419 nk_X11_offers (fun l => hg_X11_offers l _ _ _ _  hcw4) (rm_rec hR.2 (Nat.le_of_ble_eq_true rfl)) rfl rfl (Nat.le_of_ble_eq_true rfl) dX11_offers_20 ?_
    refine V_isub hX dX11_offers_23 ?_
    exact hR.1 _ _ _ _ (Option.some.inj hP) rfl dX11_offers_24
  · replace hP := ite_t hc3 hP
    refine V_iload_n hX dX11_offers_5 0 rfl ?_
    refine V_goto (tgt := 24) hX dX11_offers_6 (by decide) ?_
    exact hR.1 _ _ _ _ (Option.some.inj hP) rfl dX11_offers_24
def D_offers (F : Nat) : Nat → (Wd → Int32 → Int32 → Option (Int32 × Wd))
  | 0 => (fun _ _ _ => none)
  | n + 1 => (fun w x1 x2 => B_X11_offers F (D_offers F n) w x1 x2)
set_option maxRecDepth 100000 in
set_option maxHeartbeats 4000000 in
theorem cD_offers (S : Sx) (F : Nat) : ∀ n : Nat, (∀ (l : Launch) (w : Wd) (x1 : Int32) (x2 : Int32) (r : Int32 × Wd) , (D_offers F n) w x1 x2 = some r → Met l yX11_offers (wsg yX11_offers cX11_offers 2 (some .int)) (rmD n) (PC S w [.int x1, .int x2]) (QCi S r) 0 0 (Aw S)) := by
  intro n
  induction n with
  | zero => exact fun _ _ _ _ _ h => nn h
  | succ n ih =>
    have ih0 := ih
    intro l w x1 x2 r  h
    exact met_i (by decide) rfl (Nat.le_of_ble_eq_true rfl) ⟨rfl, rfl⟩ (fun X hX hR => s_X11_offers (F := F)  hX ⟨hR, rmD_r n⟩ ih0 h)
abbrev rm_X11_offers : Room := { frames := 150, cells := 0, slots := 0, locals := 13500 }
def P_X11_offers (F : Nat) (w : Wd) (x1 : Int32) (x2 : Int32) : Option (Int32 × Wd) := (D_offers F 100) w x1 x2
theorem c_X11_offers (l : Launch) (S : Sx) {r : Int32 × Wd} {F : Nat} {w : Wd} {x1 : Int32} {x2 : Int32}  (h : P_X11_offers F w x1 x2 = some r) : Met l yX11_offers (wsg yX11_offers cX11_offers 2 (some .int)) rm_X11_offers (PC S w [.int x1, .int x2]) (QCi S r) 0 0 (Aw S) := (cD_offers S F 100) l w x1 x2 r  h

-- MustNotStopModel.settle(II)I
abbrev rm_X11_settle : Room := { frames := 151, cells := 0, slots := 0, locals := 13521 }
theorem nk_X11_settle : MNk yX11_settle RX11 2 := ⟨rfl, by decide, by decide, by decide +kernel⟩
def P_X11_settle (F : Nat) (w : Wd) (x1 : Int32) (x2 : Int32) : Option (Int32 × Wd) := lt (sI w 88 0 0) (fun w3 => bnd (P_X11_in F w3 (Int32.toInt64 x1) 0 20) (fun x5 w4 => (if x5 = 0 then some ((-1), w4) else bnd (P_X11_in F w4 (Int32.toInt64 x2) 1 20) (fun x8 w7 => (if x8 = 0 then some ((-1), w7) else bnd (P_X11_offers F w7 x1 x2) (fun x11 w10 => lt (sI w10 88 1 0) (fun w12 => bnv (P_X11_enters F w12 (Int32.toInt64 (x1 - x11))) (fun w13 => some (x11, w13)))))))))
set_option maxRecDepth 100000 in
set_option maxHeartbeats 4000000 in
theorem s_X11_settle {X : Cx} {S : Sx} {r : Int32 × Wd} {F : Nat} {w : Wd} {x1 : Int32} {x2 : Int32}  (hX : Ok X S cX11_settle RX11 4 rm_X11_settle) (hR : HRt X S cX11_settle .int r) (hP : P_X11_settle F w x1 x2 = some r) : V X S w 0 [(0, rf S 88), (1, .int x1), (2, .int x2)] [] := by
  unfold P_X11_settle at hP
  refine V_aload_n hX dX11_settle_0 0 rfl ?_
  refine V_iconst (v := 0) hX dX11_settle_1 (by decide) ?_
  refine V_putI hX fw_X11_102 tb_88 (fun _ _ _ => ⟨Nat.le_of_ble_eq_true rfl, rfl⟩) dX11_settle_2 (fun w3 ew3 => ?_)
  replace hP := lt_r ew3 hP
  refine V_iload_n hX dX11_settle_5 1 rfl ?_
  refine V_i2l hX dX11_settle_6 ?_
  refine V_lconst (v := 0) hX dX11_settle_7 rfl ?_
  refine V_ldc2 (v := 20) hX dX11_settle_8 cn_X11_363 ?_
  obtain ⟨x5, w4, hcw4, hP⟩ := bnd_e hP
  refine V_callSi (As := [.long (Int32.toInt64 x1), .long 0, .long 20]) (rest := []) hX mk_X11_116 nk_X11_in (fun l => c_X11_in l S  hcw4) ⟨rfl, rfl, Nat.le_of_ble_eq_true rfl, Nat.le_of_ble_eq_true rfl⟩ rfl rfl (Nat.le_of_ble_eq_true rfl) dX11_settle_11 ?_
  refine V_if_eq (tgt := 29) hX dX11_settle_14 (by decide) (fun hc6 => ?_) (fun hc6 => ?_)
  · replace hP := ite_t hc6 hP
    refine V_iconst (v := (-1)) hX dX11_settle_29 (by decide) ?_
    exact hR _ _ _ _ (Option.some.inj hP) rfl dX11_settle_30
  · replace hP := ite_f hc6 hP
    refine V_iload_n hX dX11_settle_17 2 rfl ?_
    refine V_i2l hX dX11_settle_18 ?_
    refine V_lconst (v := 1) hX dX11_settle_19 rfl ?_
    refine V_ldc2 (v := 20) hX dX11_settle_20 cn_X11_363 ?_
    obtain ⟨x8, w7, hcw7, hP⟩ := bnd_e hP
    refine V_callSi (As := [.long (Int32.toInt64 x2), .long 1, .long 20]) (rest := []) hX mk_X11_116 nk_X11_in (fun l => c_X11_in l S  hcw7) ⟨rfl, rfl, Nat.le_of_ble_eq_true rfl, Nat.le_of_ble_eq_true rfl⟩ rfl rfl (Nat.le_of_ble_eq_true rfl) dX11_settle_23 ?_
    refine V_if_ne (tgt := 31) hX dX11_settle_26 (by decide) (fun hc9 => ?_) (fun hc9 => ?_)
    · replace hP := ite_f hc9 hP
      refine V_iload_n hX dX11_settle_31 1 rfl ?_
      refine V_iload_n hX dX11_settle_32 2 rfl ?_
      obtain ⟨x11, w10, hcw10, hP⟩ := bnd_e hP
      refine V_callSi (As := [.int x1, .int x2]) (rest := []) hX mk_X11_419 nk_X11_offers (fun l => c_X11_offers l S  hcw10) ⟨rfl, rfl, Nat.le_of_ble_eq_true rfl, Nat.le_of_ble_eq_true rfl⟩ rfl rfl (Nat.le_of_ble_eq_true rfl) dX11_settle_33 ?_
      refine V_istore_n (lv' := [(3, .int x11), (0, rf S 88), (1, .int x1), (2, .int x2)]) hX dX11_settle_36 (by decide) rfl ?_
      refine V_aload_n hX dX11_settle_37 1 rfl ?_
      refine V_iconst (v := 0) hX dX11_settle_38 (by decide) ?_
      refine V_putI hX fw_X11_110 tb_88 (fun _ _ _ => ⟨Nat.le_of_ble_eq_true rfl, rfl⟩) dX11_settle_39 (fun w12 ew12 => ?_)
      replace hP := lt_r ew12 hP
      refine V_aload_n hX dX11_settle_42 1 rfl ?_
      refine V_iload_n hX dX11_settle_43 2 rfl ?_
      refine V_iload_n hX dX11_settle_44 0 rfl ?_
      refine V_isub hX dX11_settle_45 ?_
      refine V_i2l hX dX11_settle_46 ?_
      obtain ⟨w13, hcw13, hP⟩ := bnv_e hP
      refine V_callVv (As := [.long (Int32.toInt64 (x1 - x11))]) (rest := []) hX mk_X11_316 nk_X11_enters (fun l => c_X11_enters l S  hcw13) tb_88 rfl ⟨rfl, rfl, Nat.le_of_ble_eq_true rfl, Nat.le_of_ble_eq_true rfl⟩ rfl rfl (Nat.le_of_ble_eq_true rfl) dX11_settle_47 ?_
      refine V_iload_n hX dX11_settle_50 0 rfl ?_
      exact hR _ _ _ _ (Option.some.inj hP) rfl dX11_settle_51
    · replace hP := ite_t hc9 hP
      refine V_iconst (v := (-1)) hX dX11_settle_29 (by decide) ?_
      exact hR _ _ _ _ (Option.some.inj hP) rfl dX11_settle_30
theorem c_X11_settle (l : Launch) (S : Sx) {r : Int32 × Wd} {F : Nat} {w : Wd} {x1 : Int32} {x2 : Int32}  (h : P_X11_settle F w x1 x2 = some r) : Met l yX11_settle (wsg yX11_settle cX11_settle 4 (some .int)) rm_X11_settle (PC S w [rf S 88, .int x1, .int x2]) (QCi S r) 0 0 (Aw S) :=
  met_i (by decide) rfl (Nat.le_of_ble_eq_true rfl) ⟨rfl, rfl⟩ (fun X hX hR => s_X11_settle  hX hR h)

-- MustNotStopModel.wins(III)I
abbrev rm_X11_wins : Room := { frames := 1, cells := 0, slots := 0, locals := 64 }
theorem nk_X11_wins : MNk yX11_wins RX11 3 := ⟨rfl, by decide, by decide, by decide +kernel⟩
def P_X11_wins (F : Nat) (w : Wd) (x1 : Int32) (x2 : Int32) (x3 : Int32) : Option (Int32 × Wd) := (if x1 ≤ x2 then (if x1 = x2 then some ((x3 / 2) - x1, w) else some (-x1, w)) else some (x3 - x2, w))
set_option maxRecDepth 100000 in
set_option maxHeartbeats 4000000 in
theorem s_X11_wins {X : Cx} {S : Sx} {r : Int32 × Wd} {F : Nat} {w : Wd} {x1 : Int32} {x2 : Int32} {x3 : Int32}  (hX : Ok X S cX11_wins RX11 3 rm_X11_wins) (hR : HRt X S cX11_wins .int r) (hP : P_X11_wins F w x1 x2 x3 = some r) : V X S w 0 [(0, .int x1), (1, .int x2), (2, .int x3)] [] := by
  unfold P_X11_wins at hP
  refine V_iload_n hX dX11_wins_0 0 rfl ?_
  refine V_iload_n hX dX11_wins_1 1 rfl ?_
  refine V_icmp_le (tgt := 11) hX dX11_wins_2 (by decide) (fun hc4 => ?_) (fun hc4 => ?_)
  · replace hP := ite_t hc4 hP
    refine V_iload_n hX dX11_wins_11 0 rfl ?_
    refine V_iload_n hX dX11_wins_12 1 rfl ?_
    refine V_icmp_ne (tgt := 24) hX dX11_wins_13 (by decide) (fun hc5 => ?_) (fun hc5 => ?_)
    · replace hP := ite_f hc5 hP
      refine V_iload_n hX dX11_wins_24 0 rfl ?_
      refine V_ineg hX dX11_wins_25 ?_
      exact hR _ _ _ _ (Option.some.inj hP) rfl dX11_wins_26
    · replace hP := ite_t hc5 hP
      refine V_iload_n hX dX11_wins_16 2 rfl ?_
      refine V_iconst (v := 2) hX dX11_wins_17 (by decide) ?_
      refine V_idiv hX dX11_wins_18 (by decide) ?_
      refine V_iload_n hX dX11_wins_19 0 rfl ?_
      refine V_isub hX dX11_wins_20 ?_
      refine V_goto (tgt := 26) hX dX11_wins_21 (by decide) ?_
      exact hR _ _ _ _ (Option.some.inj hP) rfl dX11_wins_26
  · replace hP := ite_f hc4 hP
    refine V_iload_n hX dX11_wins_5 2 rfl ?_
    refine V_iload_n hX dX11_wins_6 1 rfl ?_
    refine V_isub hX dX11_wins_7 ?_
    refine V_goto (tgt := 26) hX dX11_wins_8 (by decide) ?_
    exact hR _ _ _ _ (Option.some.inj hP) rfl dX11_wins_26
theorem c_X11_wins (l : Launch) (S : Sx) {r : Int32 × Wd} {F : Nat} {w : Wd} {x1 : Int32} {x2 : Int32} {x3 : Int32}  (h : P_X11_wins F w x1 x2 x3 = some r) : Met l yX11_wins (wsg yX11_wins cX11_wins 3 (some .int)) rm_X11_wins (PC S w [.int x1, .int x2, .int x3]) (QCi S r) 0 0 (Aw S) :=
  met_i (by decide) rfl (Nat.le_of_ble_eq_true rfl) ⟨rfl, rfl⟩ (fun X hX hR => s_X11_wins  hX hR h)

-- MustNotStopModel.isRest(III)Z
abbrev rm_X11_isRest : Room := { frames := 2, cells := 0, slots := 0, locals := 86 }
theorem nk_X11_isRest : MNk yX11_isRest RX11 3 := ⟨rfl, by decide, by decide, by decide +kernel⟩
def K_X11_isRest_37 (F : Nat) (x1 : Int32) (x2 : Int32) (x3 : Int32) (k44 : Wd → Int32 → Option (Int32 × Wd)) (rc : Wd → Int32 → Int32 → Option (Int32 × Wd)) (w : Wd) (x10 : Int32) (x11 : Int32) : Option (Int32 × Wd) := lt (x10 + 1 : Int32) (fun x12 => rc w x11 x12)
set_option maxRecDepth 100000 in
set_option maxHeartbeats 4000000 in
theorem sK_X11_isRest_37 {X : Cx} {S : Sx} {r : Int32 × Wd} {F : Nat} {x1 : Int32} {x2 : Int32} {x3 : Int32} {k44 : Wd → Int32 → Option (Int32 × Wd)} {rc : Wd → Int32 → Int32 → Option (Int32 × Wd)} {w : Wd} {x10 : Int32} {x11 : Int32} (hX : Ok X S cX11_isRest RX11 5 rm_X11_isRest) (hR : HRt X S cX11_isRest .boolean r)  (hk44 : ∀ (w : Wd) (x6 : Int32) , k44 w x6 = some r → V X S w 44 [(3, .int x6)] []) (hrc : ∀ (w : Wd) (x4 : Int32) (x5 : Int32) , rc w x4 x5 = some r → V X S w 5 [(0, .int x1), (1, .int x2), (2, .int x3), (3, .int x4), (4, .int x5)] [])  (hP : K_X11_isRest_37 F x1 x2 x3 k44 rc w x10 x11 = some r) : V X S w 37 [(0, .int x1), (1, .int x2), (2, .int x3), (4, .int x10)] [.int x11] := by
  unfold K_X11_isRest_37 at hP
  refine V_istore_n (lv' := [(3, .int x11), (0, .int x1), (1, .int x2), (2, .int x3), (4, .int x10)]) hX dX11_isRest_37 (by decide) rfl ?_
  obtain ⟨x12, ex12⟩ : ∃ y : Int32, y = x10 + 1 := ⟨_, rfl⟩
  replace hP := lt_r ex12 hP
  refine V_iinc (v := x12) (lv' := [(4, .int x12), (3, .int x11), (0, .int x1), (1, .int x2), (2, .int x3)]) hX dX11_isRest_38 (j := 4) rfl (by decide) (by rw [ex12]; rfl) rfl ?_
  refine V_goto (tgt := 5) hX dX11_isRest_41 (by decide) ?_
  refine V_sub (lv' := [(0, .int x1), (1, .int x2), (2, .int x3), (3, .int x11), (4, .int x12)]) [2, 3, 4, 1, 0] rfl ?_
  exact hrc _ _ _  hP
def K_X11_isRest_36 (F : Nat) (x1 : Int32) (x2 : Int32) (x3 : Int32) (k44 : Wd → Int32 → Option (Int32 × Wd)) (rc : Wd → Int32 → Int32 → Option (Int32 × Wd)) (w : Wd) (x9 : Int32) : Option (Int32 × Wd) := K_X11_isRest_37 F x1 x2 x3 k44 rc w x9 0
set_option maxRecDepth 100000 in
set_option maxHeartbeats 4000000 in
theorem sK_X11_isRest_36 {X : Cx} {S : Sx} {r : Int32 × Wd} {F : Nat} {x1 : Int32} {x2 : Int32} {x3 : Int32} {k44 : Wd → Int32 → Option (Int32 × Wd)} {rc : Wd → Int32 → Int32 → Option (Int32 × Wd)} {w : Wd} {x9 : Int32} (hX : Ok X S cX11_isRest RX11 5 rm_X11_isRest) (hR : HRt X S cX11_isRest .boolean r)  (hk44 : ∀ (w : Wd) (x6 : Int32) , k44 w x6 = some r → V X S w 44 [(3, .int x6)] []) (hrc : ∀ (w : Wd) (x4 : Int32) (x5 : Int32) , rc w x4 x5 = some r → V X S w 5 [(0, .int x1), (1, .int x2), (2, .int x3), (3, .int x4), (4, .int x5)] [])  (hP : K_X11_isRest_36 F x1 x2 x3 k44 rc w x9 = some r) : V X S w 36 [(0, .int x1), (1, .int x2), (2, .int x3), (4, .int x9)] [] := by
  unfold K_X11_isRest_36 at hP
  refine V_iconst (v := 0) hX dX11_isRest_36 (by decide) ?_
  exact sK_X11_isRest_37 hX hR  hk44 hrc  hP
def L_X11_isRest_5 (F : Nat) (x1 : Int32) (x2 : Int32) (x3 : Int32) (k44 : Wd → Int32 → Option (Int32 × Wd)) : Nat → Wd → Int32 → Int32 → Option (Int32 × Wd)
  | 0, _, _, _ => none
  | n + 1, w, x4, x5 => (if (9 : Int32) < x5 then k44 w x4 else (if x4 = 0 then K_X11_isRest_36 F x1 x2 x3 k44 ((L_X11_isRest_5 F x1 x2 x3 k44 n)) w x5 else bnd (P_X11_wins F w x5 x2 x3) (fun x14 w13 => bnd (P_X11_wins F w13 x1 x2 x3) (fun x16 w15 => lt (if x16 < x14 then 0 else 1 : Int32) (fun x18 => lt (x5 + 1 : Int32) (fun x19 => L_X11_isRest_5 F x1 x2 x3 k44 n w15 x18 x19))))))
set_option maxRecDepth 100000 in
set_option maxHeartbeats 4000000 in
theorem sL_X11_isRest_5 {X : Cx} {S : Sx} {r : Int32 × Wd} {F : Nat} {x1 : Int32} {x2 : Int32} {x3 : Int32} {k44 : Wd → Int32 → Option (Int32 × Wd)} (hX : Ok X S cX11_isRest RX11 5 rm_X11_isRest) (hR : HRt X S cX11_isRest .boolean r)  (hk44 : ∀ (w : Wd) (x6 : Int32) , k44 w x6 = some r → V X S w 44 [(3, .int x6)] []) : ∀ (n : Nat) (w : Wd) (x4 : Int32) (x5 : Int32) , L_X11_isRest_5 F x1 x2 x3 k44 n w x4 x5 = some r → V X S w 5 [(0, .int x1), (1, .int x2), (2, .int x3), (3, .int x4), (4, .int x5)] [] := by
  intro n
  induction n with
  | zero =>
    intro w x4 x5  hP
    exact nn hP
  | succ n ih =>
    intro w x4 x5  hP
    rw [L_X11_isRest_5] at hP
    refine V_iload hX dX11_isRest_5 4 rfl ?_
    refine V_bipush (v := 9) hX dX11_isRest_7 (by decide) ?_
    refine V_icmp_gt (tgt := 44) hX dX11_isRest_9 (by decide) (fun hc7 => ?_) (fun hc7 => ?_)
    · replace hP := ite_t hc7 hP
      refine V_sub (lv' := [(3, .int x4)]) [3] rfl ?_
      exact hk44 _ _  hP
    · replace hP := ite_f hc7 hP
      refine V_iload_n hX dX11_isRest_12 3 rfl ?_
      refine V_if_eq (tgt := 36) hX dX11_isRest_13 (by decide) (fun hc8 => ?_) (fun hc8 => ?_)
      · replace hP := ite_t hc8 hP
        refine V_sub (lv' := [(0, .int x1), (1, .int x2), (2, .int x3), (4, .int x5)]) [0, 1, 2, 4] rfl ?_
        exact sK_X11_isRest_36 hX hR  hk44 ih  hP
      · replace hP := ite_f hc8 hP
        refine V_iload hX dX11_isRest_16 4 rfl ?_
        refine V_iload_n hX dX11_isRest_18 1 rfl ?_
        refine V_iload_n hX dX11_isRest_19 2 rfl ?_
        obtain ⟨x14, w13, hcw13, hP⟩ := bnd_e hP
        refine V_callSi (As := [.int x5, .int x2, .int x3]) (rest := []) hX mk_X11_422 nk_X11_wins (fun l => c_X11_wins l S  hcw13) ⟨rfl, rfl, Nat.le_of_ble_eq_true rfl, Nat.le_of_ble_eq_true rfl⟩ rfl rfl (Nat.le_of_ble_eq_true rfl) dX11_isRest_20 ?_
        refine V_iload_n hX dX11_isRest_23 0 rfl ?_
        refine V_iload_n hX dX11_isRest_24 1 rfl ?_
        refine V_iload_n hX dX11_isRest_25 2 rfl ?_
        obtain ⟨x16, w15, hcw15, hP⟩ := bnd_e hP
        refine V_callSi (As := [.int x1, .int x2, .int x3]) (rest := [.int x14]) hX mk_X11_422 nk_X11_wins (fun l => c_X11_wins l S  hcw15) ⟨rfl, rfl, Nat.le_of_ble_eq_true rfl, Nat.le_of_ble_eq_true rfl⟩ rfl rfl (Nat.le_of_ble_eq_true rfl) dX11_isRest_26 ?_
        have k20 : V X S w15 37 [(0, .int x1), (1, .int x2), (2, .int x3), (3, .int x4), (4, .int x5)] [.int (if x16 < x14 then 0 else 1)] := by
          refine V_topi (fun x18 ex18 => ?_)
          replace hP := lt_r ex18 hP
          refine V_istore_n (lv' := [(3, .int x18), (0, .int x1), (1, .int x2), (2, .int x3), (4, .int x5)]) hX dX11_isRest_37 (by decide) rfl ?_
          obtain ⟨x19, ex19⟩ : ∃ y : Int32, y = x5 + 1 := ⟨_, rfl⟩
          replace hP := lt_r ex19 hP
          refine V_iinc (v := x19) (lv' := [(4, .int x19), (3, .int x18), (0, .int x1), (1, .int x2), (2, .int x3)]) hX dX11_isRest_38 (j := 4) rfl (by decide) (by rw [ex19]; rfl) rfl ?_
          refine V_goto (tgt := 5) hX dX11_isRest_41 (by decide) ?_
          refine V_sub (lv' := [(0, .int x1), (1, .int x2), (2, .int x3), (3, .int x18), (4, .int x19)]) [2, 3, 4, 1, 0] rfl ?_
          exact ih _ _ _  hP
        refine V_icmp_gt (tgt := 36) hX dX11_isRest_29 (by decide) (fun hc17 => ?_) (fun hc17 => ?_)
        · refine V_iconst (v := 0) hX dX11_isRest_36 (by decide) ?_
          refine V_selT (c := x16 < x14) (b := 1) hc17 ?_
          exact k20
        · refine V_iconst (v := 1) hX dX11_isRest_32 (by decide) ?_
          refine V_goto (tgt := 37) hX dX11_isRest_33 (by decide) ?_
          refine V_selF (c := x16 < x14) (a := 0) hc17 ?_
          exact k20
def P_X11_isRest (F : Nat) (w : Wd) (x1 : Int32) (x2 : Int32) (x3 : Int32) : Option (Int32 × Wd) := L_X11_isRest_5 F x1 x2 x3 (fun w x6 => gd (isZO x6) (some (x6, w))) F w 1 0
set_option maxRecDepth 100000 in
set_option maxHeartbeats 4000000 in
theorem s_X11_isRest {X : Cx} {S : Sx} {r : Int32 × Wd} {F : Nat} {w : Wd} {x1 : Int32} {x2 : Int32} {x3 : Int32}  (hX : Ok X S cX11_isRest RX11 5 rm_X11_isRest) (hR : HRt X S cX11_isRest .boolean r) (hP : P_X11_isRest F w x1 x2 x3 = some r) : V X S w 0 [(0, .int x1), (1, .int x2), (2, .int x3)] [] := by
  unfold P_X11_isRest at hP
  refine V_iconst (v := 1) hX dX11_isRest_0 (by decide) ?_
  refine V_istore_n (lv' := [(3, .int 1), (0, .int x1), (1, .int x2), (2, .int x3)]) hX dX11_isRest_1 (by decide) rfl ?_
  refine V_iconst (v := 0) hX dX11_isRest_2 (by decide) ?_
  refine V_istore (lv' := [(4, .int 0), (3, .int 1), (0, .int x1), (1, .int x2), (2, .int x3)]) hX dX11_isRest_3 (by decide) rfl ?_
  refine V_sub (lv' := [(0, .int x1), (1, .int x2), (2, .int x3), (3, .int 1), (4, .int 0)]) [2, 3, 4, 1, 0] rfl ?_
  have k22 : ∀ (w : Wd) (x6 : Int32) , (gd (isZO x6) (some (x6, w))) = some r → V X S w 44 [(3, .int x6)] [] := by
    intro w x6  hP
    refine V_iload_n hX dX11_isRest_44 0 rfl ?_
    obtain ⟨hz21, hP⟩ := gd_e hP
    exact hR _ _ _ _ (Option.some.inj hP) (nar_z hz21) dX11_isRest_45
  exact sL_X11_isRest_5 hX hR  k22 F _ _ _  hP
theorem c_X11_isRest (l : Launch) (S : Sx) {r : Int32 × Wd} {F : Nat} {w : Wd} {x1 : Int32} {x2 : Int32} {x3 : Int32}  (h : P_X11_isRest F w x1 x2 x3 = some r) : Met l yX11_isRest (wsg yX11_isRest cX11_isRest 5 (some .boolean)) rm_X11_isRest (PC S w [.int x1, .int x2, .int x3]) (QCi S r) 0 0 (Aw S) :=
  met_i (by decide) rfl (Nat.le_of_ble_eq_true rfl) ⟨rfl, rfl⟩ (fun X hX hR => s_X11_isRest  hX hR h)

-- MustNotStopModel.strike(I)I
abbrev rm_X11_strike : Room := { frames := 3, cells := 0, slots := 0, locals := 110 }
theorem nk_X11_strike : MNk yX11_strike RX11 1 := ⟨rfl, by decide, by decide, by decide +kernel⟩
def K_X11_strike_84 (F : Nat) (x1 : Int32) (x11 : Int32) (k90 : Wd → Int32 → Option (Int32 × Wd)) (rc : Wd → Int32 → Int32 → Option (Int32 × Wd)) (w : Wd) (x19 : Int32) (x20 : Int32) : Option (Int32 × Wd) := lt (x20 + 1 : Int32) (fun x21 => rc w x19 x21)
set_option maxRecDepth 100000 in
set_option maxHeartbeats 4000000 in
theorem sK_X11_strike_84 {X : Cx} {S : Sx} {r : Int32 × Wd} {F : Nat} {x1 : Int32} {x11 : Int32} {k90 : Wd → Int32 → Option (Int32 × Wd)} {rc : Wd → Int32 → Int32 → Option (Int32 × Wd)} {w : Wd} {x19 : Int32} {x20 : Int32} (hX : Ok X S cX11_strike RX11 5 rm_X11_strike) (hR : HRt X S cX11_strike .int r)  (hk90 : ∀ (w : Wd) (x14 : Int32) , k90 w x14 = some r → V X S w 90 [(0, rf S 88), (1, .int x1), (2, .int x14), (3, .int x11)] []) (hrc : ∀ (w : Wd) (x12 : Int32) (x13 : Int32) , rc w x12 x13 = some r → V X S w 37 [(0, rf S 88), (1, .int x1), (2, .int x12), (3, .int x11), (4, .int x13)] [])  (hP : K_X11_strike_84 F x1 x11 k90 rc w x19 x20 = some r) : V X S w 84 [(0, rf S 88), (1, .int x1), (2, .int x19), (3, .int x11), (4, .int x20)] [] := by
  unfold K_X11_strike_84 at hP
  obtain ⟨x21, ex21⟩ : ∃ y : Int32, y = x20 + 1 := ⟨_, rfl⟩
  replace hP := lt_r ex21 hP
  refine V_iinc (v := x21) (lv' := [(4, .int x21), (0, rf S 88), (1, .int x1), (2, .int x19), (3, .int x11)]) hX dX11_strike_84 (j := 4) rfl (by decide) (by rw [ex21]; rfl) rfl ?_
  refine V_goto (tgt := 37) hX dX11_strike_87 (by decide) ?_
  refine V_sub (lv' := [(0, rf S 88), (1, .int x1), (2, .int x19), (3, .int x11), (4, .int x21)]) [1, 2, 3, 4, 0] rfl ?_
  exact hrc _ _ _  hP
def K_X11_strike_81 (F : Nat) (x1 : Int32) (x11 : Int32) (k90 : Wd → Int32 → Option (Int32 × Wd)) (rc : Wd → Int32 → Int32 → Option (Int32 × Wd)) (w : Wd) (x26 : Int32) (x27 : Int32) : Option (Int32 × Wd) := lt (x26 + 1 : Int32) (fun x28 => K_X11_strike_84 F x1 x11 k90 rc w x28 x27)
set_option maxRecDepth 100000 in
set_option maxHeartbeats 4000000 in
theorem sK_X11_strike_81 {X : Cx} {S : Sx} {r : Int32 × Wd} {F : Nat} {x1 : Int32} {x11 : Int32} {k90 : Wd → Int32 → Option (Int32 × Wd)} {rc : Wd → Int32 → Int32 → Option (Int32 × Wd)} {w : Wd} {x26 : Int32} {x27 : Int32} (hX : Ok X S cX11_strike RX11 5 rm_X11_strike) (hR : HRt X S cX11_strike .int r)  (hk90 : ∀ (w : Wd) (x14 : Int32) , k90 w x14 = some r → V X S w 90 [(0, rf S 88), (1, .int x1), (2, .int x14), (3, .int x11)] []) (hrc : ∀ (w : Wd) (x12 : Int32) (x13 : Int32) , rc w x12 x13 = some r → V X S w 37 [(0, rf S 88), (1, .int x1), (2, .int x12), (3, .int x11), (4, .int x13)] [])  (hP : K_X11_strike_81 F x1 x11 k90 rc w x26 x27 = some r) : V X S w 81 [(0, rf S 88), (1, .int x1), (2, .int x26), (3, .int x11), (4, .int x27)] [] := by
  unfold K_X11_strike_81 at hP
  obtain ⟨x28, ex28⟩ : ∃ y : Int32, y = x26 + 1 := ⟨_, rfl⟩
  replace hP := lt_r ex28 hP
  refine V_iinc (v := x28) (lv' := [(2, .int x28), (0, rf S 88), (1, .int x1), (3, .int x11), (4, .int x27)]) hX dX11_strike_81 (j := 2) rfl (by decide) (by rw [ex28]; rfl) rfl ?_
  refine V_sub (lv' := [(0, rf S 88), (1, .int x1), (2, .int x28), (3, .int x11), (4, .int x27)]) [1, 2, 0, 3, 4] rfl ?_
  exact sK_X11_strike_84 hX hR  hk90 hrc  hP
def L_X11_strike_37 (F : Nat) (x1 : Int32) (x11 : Int32) (k90 : Wd → Int32 → Option (Int32 × Wd)) : Nat → Wd → Int32 → Int32 → Option (Int32 × Wd)
  | 0, _, _, _ => none
  | n + 1, w, x12, x13 => (if (9 : Int32) < x13 then k90 w x12 else bnd (P_X11_isRest F w x11 x13 x1) (fun x17 w16 => (if x17 = 0 then K_X11_strike_84 F x1 x11 k90 ((L_X11_strike_37 F x1 x11 k90 n)) w16 x12 x13 else bnd (P_X11_isRest F w16 x13 x11 x1) (fun x23 w22 => (if x23 = 0 then K_X11_strike_84 F x1 x11 k90 ((L_X11_strike_37 F x1 x11 k90 n)) w22 x12 x13 else (if x12 = 0 then bnv (P_X11_enters F w22 (Int32.toInt64 x11)) (fun w29 => bnv (P_X11_enters F w29 (Int32.toInt64 x13)) (fun w30 => K_X11_strike_81 F x1 x11 k90 ((L_X11_strike_37 F x1 x11 k90 n)) w30 x12 x13)) else K_X11_strike_81 F x1 x11 k90 ((L_X11_strike_37 F x1 x11 k90 n)) w22 x12 x13))))))
set_option maxRecDepth 100000 in
set_option maxHeartbeats 4000000 in
theorem sL_X11_strike_37 {X : Cx} {S : Sx} {r : Int32 × Wd} {F : Nat} {x1 : Int32} {x11 : Int32} {k90 : Wd → Int32 → Option (Int32 × Wd)} (hX : Ok X S cX11_strike RX11 5 rm_X11_strike) (hR : HRt X S cX11_strike .int r)  (hk90 : ∀ (w : Wd) (x14 : Int32) , k90 w x14 = some r → V X S w 90 [(0, rf S 88), (1, .int x1), (2, .int x14), (3, .int x11)] []) : ∀ (n : Nat) (w : Wd) (x12 : Int32) (x13 : Int32) , L_X11_strike_37 F x1 x11 k90 n w x12 x13 = some r → V X S w 37 [(0, rf S 88), (1, .int x1), (2, .int x12), (3, .int x11), (4, .int x13)] [] := by
  intro n
  induction n with
  | zero =>
    intro w x12 x13  hP
    exact nn hP
  | succ n ih =>
    intro w x12 x13  hP
    rw [L_X11_strike_37] at hP
    refine V_iload hX dX11_strike_37 4 rfl ?_
    refine V_bipush (v := 9) hX dX11_strike_39 (by decide) ?_
    refine V_icmp_gt (tgt := 90) hX dX11_strike_41 (by decide) (fun hc15 => ?_) (fun hc15 => ?_)
    · replace hP := ite_t hc15 hP
      refine V_sub (lv' := [(0, rf S 88), (1, .int x1), (2, .int x12), (3, .int x11)]) [0, 1, 2, 3] rfl ?_
      exact hk90 _ _  hP
    · replace hP := ite_f hc15 hP
      refine V_iload_n hX dX11_strike_44 3 rfl ?_
      refine V_iload hX dX11_strike_45 4 rfl ?_
      refine V_iload_n hX dX11_strike_47 1 rfl ?_
      obtain ⟨x17, w16, hcw16, hP⟩ := bnd_e hP
      refine V_callSi (As := [.int x11, .int x13, .int x1]) (rest := []) hX mk_X11_425 nk_X11_isRest (fun l => c_X11_isRest l S  hcw16) ⟨rfl, rfl, Nat.le_of_ble_eq_true rfl, Nat.le_of_ble_eq_true rfl⟩ rfl rfl (Nat.le_of_ble_eq_true rfl) dX11_strike_48 ?_
      refine V_if_eq (tgt := 84) hX dX11_strike_51 (by decide) (fun hc18 => ?_) (fun hc18 => ?_)
      · replace hP := ite_t hc18 hP
        exact sK_X11_strike_84 hX hR  hk90 ih  hP
      · replace hP := ite_f hc18 hP
        refine V_iload hX dX11_strike_54 4 rfl ?_
        refine V_iload_n hX dX11_strike_56 3 rfl ?_
        refine V_iload_n hX dX11_strike_57 1 rfl ?_
        obtain ⟨x23, w22, hcw22, hP⟩ := bnd_e hP
        refine V_callSi (As := [.int x13, .int x11, .int x1]) (rest := []) hX mk_X11_425 nk_X11_isRest (fun l => c_X11_isRest l S  hcw22) ⟨rfl, rfl, Nat.le_of_ble_eq_true rfl, Nat.le_of_ble_eq_true rfl⟩ rfl rfl (Nat.le_of_ble_eq_true rfl) dX11_strike_58 ?_
        refine V_if_eq (tgt := 84) hX dX11_strike_61 (by decide) (fun hc24 => ?_) (fun hc24 => ?_)
        · replace hP := ite_t hc24 hP
          exact sK_X11_strike_84 hX hR  hk90 ih  hP
        · replace hP := ite_f hc24 hP
          refine V_iload_n hX dX11_strike_64 2 rfl ?_
          refine V_if_ne (tgt := 81) hX dX11_strike_65 (by decide) (fun hc25 => ?_) (fun hc25 => ?_)
          · replace hP := ite_f hc25 hP
            exact sK_X11_strike_81 hX hR  hk90 ih  hP
          · replace hP := ite_t hc25 hP
            refine V_aload_n hX dX11_strike_68 0 rfl ?_
            refine V_iload_n hX dX11_strike_69 3 rfl ?_
            refine V_i2l hX dX11_strike_70 ?_
            obtain ⟨w29, hcw29, hP⟩ := bnv_e hP
            refine V_callVv (As := [.long (Int32.toInt64 x11)]) (rest := []) hX mk_X11_316 nk_X11_enters (fun l => c_X11_enters l S  hcw29) tb_88 rfl ⟨rfl, rfl, Nat.le_of_ble_eq_true rfl, Nat.le_of_ble_eq_true rfl⟩ rfl rfl (Nat.le_of_ble_eq_true rfl) dX11_strike_71 ?_
            refine V_aload_n hX dX11_strike_74 0 rfl ?_
            refine V_iload hX dX11_strike_75 4 rfl ?_
            refine V_i2l hX dX11_strike_77 ?_
            obtain ⟨w30, hcw30, hP⟩ := bnv_e hP
            refine V_callVv (As := [.long (Int32.toInt64 x13)]) (rest := []) hX mk_X11_316 nk_X11_enters (fun l => c_X11_enters l S  hcw30) tb_88 rfl ⟨rfl, rfl, Nat.le_of_ble_eq_true rfl, Nat.le_of_ble_eq_true rfl⟩ rfl rfl (Nat.le_of_ble_eq_true rfl) dX11_strike_78 ?_
            exact sK_X11_strike_81 hX hR  hk90 ih  hP
def L_X11_strike_28 (F : Nat) (x1 : Int32) (k96 : Wd → Int32 → Option (Int32 × Wd)) : Nat → Wd → Int32 → Int32 → Option (Int32 × Wd)
  | 0, _, _, _ => none
  | n + 1, w, x7, x8 => (if (9 : Int32) < x8 then k96 w x7 else L_X11_strike_37 F x1 x8 (fun w x14 => lt (x8 + 1 : Int32) (fun x31 => L_X11_strike_28 F x1 k96 n w x14 x31)) F w x7 0)
set_option maxRecDepth 100000 in
set_option maxHeartbeats 4000000 in
theorem sL_X11_strike_28 {X : Cx} {S : Sx} {r : Int32 × Wd} {F : Nat} {x1 : Int32} {k96 : Wd → Int32 → Option (Int32 × Wd)} (hX : Ok X S cX11_strike RX11 5 rm_X11_strike) (hR : HRt X S cX11_strike .int r)  (hk96 : ∀ (w : Wd) (x9 : Int32) , k96 w x9 = some r → V X S w 96 [(2, .int x9)] []) : ∀ (n : Nat) (w : Wd) (x7 : Int32) (x8 : Int32) , L_X11_strike_28 F x1 k96 n w x7 x8 = some r → V X S w 28 [(0, rf S 88), (1, .int x1), (2, .int x7), (3, .int x8)] [] := by
  intro n
  induction n with
  | zero =>
    intro w x7 x8  hP
    exact nn hP
  | succ n ih =>
    intro w x7 x8  hP
    rw [L_X11_strike_28] at hP
    refine V_iload_n hX dX11_strike_28 3 rfl ?_
    refine V_bipush (v := 9) hX dX11_strike_29 (by decide) ?_
    refine V_icmp_gt (tgt := 96) hX dX11_strike_31 (by decide) (fun hc10 => ?_) (fun hc10 => ?_)
    · replace hP := ite_t hc10 hP
      refine V_sub (lv' := [(2, .int x7)]) [2] rfl ?_
      exact hk96 _ _  hP
    · replace hP := ite_f hc10 hP
      refine V_iconst (v := 0) hX dX11_strike_34 (by decide) ?_
      refine V_istore (lv' := [(4, .int 0), (0, rf S 88), (1, .int x1), (2, .int x7), (3, .int x8)]) hX dX11_strike_35 (by decide) rfl ?_
      refine V_sub (lv' := [(0, rf S 88), (1, .int x1), (2, .int x7), (3, .int x8), (4, .int 0)]) [1, 2, 3, 4, 0] rfl ?_
      have k32 : ∀ (w : Wd) (x14 : Int32) , (lt (x8 + 1 : Int32) (fun x31 => L_X11_strike_28 F x1 k96 n w x14 x31)) = some r → V X S w 90 [(0, rf S 88), (1, .int x1), (2, .int x14), (3, .int x8)] [] := by
        intro w x14  hP
        obtain ⟨x31, ex31⟩ : ∃ y : Int32, y = x8 + 1 := ⟨_, rfl⟩
        replace hP := lt_r ex31 hP
        refine V_iinc (v := x31) (lv' := [(3, .int x31), (0, rf S 88), (1, .int x1), (2, .int x14)]) hX dX11_strike_90 (j := 3) rfl (by decide) (by rw [ex31]; rfl) rfl ?_
        refine V_goto (tgt := 28) hX dX11_strike_93 (by decide) ?_
        refine V_sub (lv' := [(0, rf S 88), (1, .int x1), (2, .int x14), (3, .int x31)]) [1, 2, 3, 0] rfl ?_
        exact ih _ _ _  hP
      exact sL_X11_strike_37 hX hR  k32 F _ _ _  hP
def P_X11_strike (F : Nat) (w : Wd) (x1 : Int32) : Option (Int32 × Wd) := lt (sI w 88 0 0) (fun w2 => bnd (P_X11_in F w2 (Int32.toInt64 x1) 0 99) (fun x4 w3 => (if x4 = 0 then some ((-1), w3) else lt (sI w3 88 1 0) (fun w6 => L_X11_strike_28 F x1 (fun w x9 => some (x9, w)) F w6 0 0))))
set_option maxRecDepth 100000 in
set_option maxHeartbeats 4000000 in
theorem s_X11_strike {X : Cx} {S : Sx} {r : Int32 × Wd} {F : Nat} {w : Wd} {x1 : Int32}  (hX : Ok X S cX11_strike RX11 5 rm_X11_strike) (hR : HRt X S cX11_strike .int r) (hP : P_X11_strike F w x1 = some r) : V X S w 0 [(0, rf S 88), (1, .int x1)] [] := by
  unfold P_X11_strike at hP
  refine V_aload_n hX dX11_strike_0 0 rfl ?_
  refine V_iconst (v := 0) hX dX11_strike_1 (by decide) ?_
  refine V_putI hX fw_X11_102 tb_88 (fun _ _ _ => ⟨Nat.le_of_ble_eq_true rfl, rfl⟩) dX11_strike_2 (fun w2 ew2 => ?_)
  replace hP := lt_r ew2 hP
  refine V_iload_n hX dX11_strike_5 1 rfl ?_
  refine V_i2l hX dX11_strike_6 ?_
  refine V_lconst (v := 0) hX dX11_strike_7 rfl ?_
  refine V_ldc2 (v := 99) hX dX11_strike_8 cn_X11_290 ?_
  obtain ⟨x4, w3, hcw3, hP⟩ := bnd_e hP
  refine V_callSi (As := [.long (Int32.toInt64 x1), .long 0, .long 99]) (rest := []) hX mk_X11_116 nk_X11_in (fun l => c_X11_in l S  hcw3) ⟨rfl, rfl, Nat.le_of_ble_eq_true rfl, Nat.le_of_ble_eq_true rfl⟩ rfl rfl (Nat.le_of_ble_eq_true rfl) dX11_strike_11 ?_
  refine V_if_ne (tgt := 19) hX dX11_strike_14 (by decide) (fun hc5 => ?_) (fun hc5 => ?_)
  · replace hP := ite_f hc5 hP
    refine V_iconst (v := 0) hX dX11_strike_19 (by decide) ?_
    refine V_istore_n (lv' := [(2, .int 0), (0, rf S 88), (1, .int x1)]) hX dX11_strike_20 (by decide) rfl ?_
    refine V_aload_n hX dX11_strike_21 1 rfl ?_
    refine V_iconst (v := 0) hX dX11_strike_22 (by decide) ?_
    refine V_putI hX fw_X11_110 tb_88 (fun _ _ _ => ⟨Nat.le_of_ble_eq_true rfl, rfl⟩) dX11_strike_23 (fun w6 ew6 => ?_)
    replace hP := lt_r ew6 hP
    refine V_iconst (v := 0) hX dX11_strike_26 (by decide) ?_
    refine V_istore_n (lv' := [(3, .int 0), (2, .int 0), (0, rf S 88), (1, .int x1)]) hX dX11_strike_27 (by decide) rfl ?_
    refine V_sub (lv' := [(0, rf S 88), (1, .int x1), (2, .int 0), (3, .int 0)]) [2, 3, 1, 0] rfl ?_
    have k33 : ∀ (w : Wd) (x9 : Int32) , (some (x9, w)) = some r → V X S w 96 [(2, .int x9)] [] := by
      intro w x9  hP
      refine V_iload_n hX dX11_strike_96 0 rfl ?_
      exact hR _ _ _ _ (Option.some.inj hP) rfl dX11_strike_97
    exact sL_X11_strike_28 hX hR  k33 F _ _ _  hP
  · replace hP := ite_t hc5 hP
    refine V_iconst (v := (-1)) hX dX11_strike_17 (by decide) ?_
    exact hR _ _ _ _ (Option.some.inj hP) rfl dX11_strike_18
theorem c_X11_strike (l : Launch) (S : Sx) {r : Int32 × Wd} {F : Nat} {w : Wd} {x1 : Int32}  (h : P_X11_strike F w x1 = some r) : Met l yX11_strike (wsg yX11_strike cX11_strike 5 (some .int)) rm_X11_strike (PC S w [rf S 88, .int x1]) (QCi S r) 0 0 (Aw S) :=
  met_i (by decide) rfl (Nat.le_of_ble_eq_true rfl) ⟨rfl, rfl⟩ (fun X hX hR => s_X11_strike  hX hR h)

-- MustNotStopModel.years(II)I
abbrev rm_X11_years : Room := { frames := 7, cells := 0, slots := 0, locals := 197 }
theorem nk_X11_years : MNk yX11_years RX11 2 := ⟨rfl, by decide, by decide, by decide +kernel⟩
def K_X11_years_89 (F : Nat) (x1 : Int32) (x2 : Int32) (k111 : Wd → Int32 → Option (Int32 × Wd)) (rc : Wd → Int32 → Int32 → Int32 → Option (Int32 × Wd)) (w : Wd) (x20 : Int32) (x21 : Int32) (x22 : Int32) : Option (Int32 × Wd) := bnd (P_X11_minuteGoes F w 96) (fun x24 w23 => bnd (P_X11_flag F w23 x24) (fun x26 w25 => lt (x21 + x26 : Int32) (fun x27 => lt (x22 + 1 : Int32) (fun x28 => rc w25 x20 x27 x28))))
set_option maxRecDepth 100000 in
set_option maxHeartbeats 4000000 in
theorem sK_X11_years_89 {X : Cx} {S : Sx} {r : Int32 × Wd} {F : Nat} {x1 : Int32} {x2 : Int32} {k111 : Wd → Int32 → Option (Int32 × Wd)} {rc : Wd → Int32 → Int32 → Int32 → Option (Int32 × Wd)} {w : Wd} {x20 : Int32} {x21 : Int32} {x22 : Int32} (hX : Ok X S cX11_years RX11 7 rm_X11_years) (hR : HRt X S cX11_years .int r)  (hk111 : ∀ (w : Wd) (x12 : Int32) , k111 w x12 = some r → V X S w 111 [(0, rf S 88), (4, .int x12)] []) (hrc : ∀ (w : Wd) (x9 : Int32) (x10 : Int32) (x11 : Int32) , rc w x9 x10 x11 = some r → V X S w 38 [(0, rf S 88), (2, .int x2), (3, .int x9), (4, .int x10), (5, .int x11), (1, .int x1)] [])  (hP : K_X11_years_89 F x1 x2 k111 rc w x20 x21 x22 = some r) : V X S w 89 [(0, rf S 88), (1, .int x1), (2, .int x2), (3, .int x20), (4, .int x21), (5, .int x22)] [] := by
  unfold K_X11_years_89 at hP
  refine V_iload hX dX11_years_89 4 rfl ?_
  refine V_aload_n hX dX11_years_91 0 rfl ?_
  refine V_aload_n hX dX11_years_92 0 rfl ?_
  refine V_getF (j := 96) hX fk_X11_32 tb_88 (fun _ _ _ => rfl) dX11_years_93 ?_
  obtain ⟨x24, w23, hcw23, hP⟩ := bnd_e hP
  refine V_callVi (As := [rf S 96]) (rest := [.int x21]) hX mk_X11_307 nk_X11_minuteGoes (fun l => c_X11_minuteGoes l S (by decide) hcw23) tb_88 rfl ⟨rfl, rfl, Nat.le_of_ble_eq_true rfl, Nat.le_of_ble_eq_true rfl⟩ rfl rfl (Nat.le_of_ble_eq_true rfl) dX11_years_96 ?_
  obtain ⟨x26, w25, hcw25, hP⟩ := bnd_e hP
  refine V_callSi (As := [.int x24]) (rest := [.int x21]) hX mk_X11_138 nk_X11_flag (fun l => c_X11_flag l S  hcw25) ⟨rfl, rfl, Nat.le_of_ble_eq_true rfl, Nat.le_of_ble_eq_true rfl⟩ rfl rfl (Nat.le_of_ble_eq_true rfl) dX11_years_99 ?_
  refine V_iadd hX dX11_years_102 ?_
  refine V_topi (fun x27 ex27 => ?_)
  replace hP := lt_r ex27 hP
  refine V_istore (lv' := [(4, .int x27), (0, rf S 88), (1, .int x1), (2, .int x2), (3, .int x20), (5, .int x22)]) hX dX11_years_103 (by decide) rfl ?_
  obtain ⟨x28, ex28⟩ : ∃ y : Int32, y = x22 + 1 := ⟨_, rfl⟩
  replace hP := lt_r ex28 hP
  refine V_iinc (v := x28) (lv' := [(5, .int x28), (4, .int x27), (0, rf S 88), (1, .int x1), (2, .int x2), (3, .int x20)]) hX dX11_years_105 (j := 5) rfl (by decide) (by rw [ex28]; rfl) rfl ?_
  refine V_goto (tgt := 38) hX dX11_years_108 (by decide) ?_
  refine V_sub (lv' := [(0, rf S 88), (2, .int x2), (3, .int x20), (4, .int x27), (5, .int x28), (1, .int x1)]) [2, 4, 5, 1, 0, 3] rfl ?_
  exact hrc _ _ _ _  hP
def L_X11_years_38 (F : Nat) (x1 : Int32) (x2 : Int32) (k111 : Wd → Int32 → Option (Int32 × Wd)) : Nat → Wd → Int32 → Int32 → Int32 → Option (Int32 × Wd)
  | 0, _, _, _, _ => none
  | n + 1, w, x9, x10, x11 => (if x2 ≤ x11 then k111 w x10 else lt ((x9 * 1103515245) + 12345 : Int32) (fun x14 => gd (neZ (gI w 88 3)) (lt (iremI (iushrI x14 16) (gI w 88 3) : Int32) (fun x16 => bnd (P_X11_leaves F w 96 x16) (fun x18 w17 => (if (0 : Int32) ≤ x18 then K_X11_years_89 F x1 x2 k111 ((L_X11_years_38 F x1 x2 k111 n)) w17 x14 x10 x11 else bnd (P_X11_takes F w17 96 x16) (fun x30 w29 => K_X11_years_89 F x1 x2 k111 ((L_X11_years_38 F x1 x2 k111 n)) w29 x14 x10 x11)))))))
set_option maxRecDepth 100000 in
set_option maxHeartbeats 4000000 in
theorem sL_X11_years_38 {X : Cx} {S : Sx} {r : Int32 × Wd} {F : Nat} {x1 : Int32} {x2 : Int32} {k111 : Wd → Int32 → Option (Int32 × Wd)} (hX : Ok X S cX11_years RX11 7 rm_X11_years) (hR : HRt X S cX11_years .int r)  (hk111 : ∀ (w : Wd) (x12 : Int32) , k111 w x12 = some r → V X S w 111 [(0, rf S 88), (4, .int x12)] []) : ∀ (n : Nat) (w : Wd) (x9 : Int32) (x10 : Int32) (x11 : Int32) , L_X11_years_38 F x1 x2 k111 n w x9 x10 x11 = some r → V X S w 38 [(0, rf S 88), (2, .int x2), (3, .int x9), (4, .int x10), (5, .int x11), (1, .int x1)] [] := by
  intro n
  induction n with
  | zero =>
    intro w x9 x10 x11  hP
    exact nn hP
  | succ n ih =>
    intro w x9 x10 x11  hP
    rw [L_X11_years_38] at hP
    refine V_iload hX dX11_years_38 4 rfl ?_
    refine V_iload_n hX dX11_years_40 1 rfl ?_
    refine V_icmp_ge (tgt := 111) hX dX11_years_41 (by decide) (fun hc13 => ?_) (fun hc13 => ?_)
    · replace hP := ite_t hc13 hP
      refine V_sub (lv' := [(0, rf S 88), (4, .int x10)]) [0, 3] rfl ?_
      exact hk111 _ _  hP
    · replace hP := ite_f hc13 hP
      refine V_iload_n hX dX11_years_44 2 rfl ?_
      refine V_ldcw (v := 1103515245) hX dX11_years_45 cn_X11_430 ?_
      refine V_imul hX dX11_years_48 ?_
      refine V_sipush (v := 12345) hX dX11_years_49 (by decide) ?_
      refine V_iadd hX dX11_years_52 ?_
      refine V_topi (fun x14 ex14 => ?_)
      replace hP := lt_r ex14 hP
      refine V_istore_n (lv' := [(3, .int x14), (0, rf S 88), (2, .int x2), (4, .int x10), (5, .int x11), (1, .int x1)]) hX dX11_years_53 (by decide) rfl ?_
      refine V_iload_n hX dX11_years_54 0 rfl ?_
      refine V_bipush (v := 16) hX dX11_years_55 (by decide) ?_
      refine V_iushr hX dX11_years_57 ?_
      refine V_aload_n hX dX11_years_58 1 rfl ?_
      refine V_getI hX fk_X11_113 tb_88 (fun _ _ _ => rfl) dX11_years_59 ?_
      obtain ⟨hz15, hP⟩ := gd_e hP
      refine V_irem hX dX11_years_62 hz15 ?_
      refine V_topi (fun x16 ex16 => ?_)
      replace hP := lt_r ex16 hP
      refine V_istore (lv' := [(6, .int x16), (3, .int x14), (0, rf S 88), (2, .int x2), (4, .int x10), (5, .int x11), (1, .int x1)]) hX dX11_years_63 (by decide) rfl ?_
      refine V_aload_n hX dX11_years_65 2 rfl ?_
      refine V_aload_n hX dX11_years_66 2 rfl ?_
      refine V_getF (j := 96) hX fk_X11_32 tb_88 (fun _ _ _ => rfl) dX11_years_67 ?_
      refine V_iload hX dX11_years_70 0 rfl ?_
      obtain ⟨x18, w17, hcw17, hP⟩ := bnd_e hP
      refine V_callVi (As := [rf S 96, .int x16]) (rest := []) hX mk_X11_301 nk_X11_leaves (fun l => c_X11_leaves l S (by decide) hcw17) tb_88 rfl ⟨rfl, rfl, Nat.le_of_ble_eq_true rfl, Nat.le_of_ble_eq_true rfl⟩ rfl rfl (Nat.le_of_ble_eq_true rfl) dX11_years_72 ?_
      refine V_if_ge (tgt := 89) hX dX11_years_75 (by decide) (fun hc19 => ?_) (fun hc19 => ?_)
      · replace hP := ite_t hc19 hP
        refine V_sub (lv' := [(0, rf S 88), (1, .int x1), (2, .int x2), (3, .int x14), (4, .int x10), (5, .int x11)]) [2, 6, 3, 1, 4, 5] rfl ?_
        exact sK_X11_years_89 hX hR  hk111 ih  hP
      · replace hP := ite_f hc19 hP
        refine V_aload_n hX dX11_years_78 2 rfl ?_
        refine V_aload_n hX dX11_years_79 2 rfl ?_
        refine V_getF (j := 96) hX fk_X11_32 tb_88 (fun _ _ _ => rfl) dX11_years_80 ?_
        refine V_iload hX dX11_years_83 0 rfl ?_
        obtain ⟨x30, w29, hcw29, hP⟩ := bnd_e hP
        refine V_callVi (As := [rf S 96, .int x16]) (rest := []) hX mk_X11_295 nk_X11_takes (fun l => c_X11_takes l S (by decide) hcw29) tb_88 rfl ⟨rfl, rfl, Nat.le_of_ble_eq_true rfl, Nat.le_of_ble_eq_true rfl⟩ rfl rfl (Nat.le_of_ble_eq_true rfl) dX11_years_85 ?_
        refine V_pop hX dX11_years_88 rfl ?_
        refine V_sub (lv' := [(0, rf S 88), (1, .int x1), (2, .int x2), (3, .int x14), (4, .int x10), (5, .int x11)]) [2, 6, 3, 1, 4, 5] rfl ?_
        exact sK_X11_years_89 hX hR  hk111 ih  hP
def P_X11_years (F : Nat) (w : Wd) (x1 : Int32) (x2 : Int32) : Option (Int32 × Wd) := lt (sI w 88 0 0) (fun w3 => bnd (P_X11_in F w3 (Int32.toInt64 x2) 1 300) (fun x5 w4 => (if x5 = 0 then some ((-1), w4) else (if (gI w4 88 3) = 0 then some ((-1), w4) else bnv (P_X11_puts F w4 ) (fun w8 => L_X11_years_38 F x1 x2 (fun w x12 => lt (sI w 88 1 0) (fun w31 => bnv (P_X11_enters F w31 (Int32.toInt64 x12)) (fun w32 => bnd (P_X11_sumOf F w32 ((ishlI 1 (gI w32 88 3)) - 1) 96) (fun x34 w33 => bnv (P_X11_enters F w33 (Int32.toInt64 x34)) (fun w35 => gd (inB 15 16) (bnd (P_J6_bitCount_0f7a4 F w35 (gI w35 96 15)) (fun x38 w37 => bnv (P_X11_enters F w37 (Int32.toInt64 x38)) (fun w39 => gd (inB 13 16) (gd (inB 13 16) (some ((gI w39 96 13) - (gI w39 95 13), w39))))))))))) F w8 x1 0 0)))))
set_option maxRecDepth 100000 in
set_option maxHeartbeats 4000000 in
theorem s_X11_years {X : Cx} {S : Sx} {r : Int32 × Wd} {F : Nat} {w : Wd} {x1 : Int32} {x2 : Int32}  (hX : Ok X S cX11_years RX11 7 rm_X11_years) (hR : HRt X S cX11_years .int r) (hP : P_X11_years F w x1 x2 = some r) : V X S w 0 [(0, rf S 88), (1, .int x1), (2, .int x2)] [] := by
  unfold P_X11_years at hP
  refine V_aload_n hX dX11_years_0 0 rfl ?_
  refine V_iconst (v := 0) hX dX11_years_1 (by decide) ?_
  refine V_putI hX fw_X11_102 tb_88 (fun _ _ _ => ⟨Nat.le_of_ble_eq_true rfl, rfl⟩) dX11_years_2 (fun w3 ew3 => ?_)
  replace hP := lt_r ew3 hP
  refine V_iload_n hX dX11_years_5 2 rfl ?_
  refine V_i2l hX dX11_years_6 ?_
  refine V_lconst (v := 1) hX dX11_years_7 rfl ?_
  refine V_ldc2 (v := 300) hX dX11_years_8 cn_X11_428 ?_
  obtain ⟨x5, w4, hcw4, hP⟩ := bnd_e hP
  refine V_callSi (As := [.long (Int32.toInt64 x2), .long 1, .long 300]) (rest := []) hX mk_X11_116 nk_X11_in (fun l => c_X11_in l S  hcw4) ⟨rfl, rfl, Nat.le_of_ble_eq_true rfl, Nat.le_of_ble_eq_true rfl⟩ rfl rfl (Nat.le_of_ble_eq_true rfl) dX11_years_11 ?_
  refine V_if_eq (tgt := 24) hX dX11_years_14 (by decide) (fun hc6 => ?_) (fun hc6 => ?_)
  · replace hP := ite_t hc6 hP
    refine V_iconst (v := (-1)) hX dX11_years_24 (by decide) ?_
    exact hR _ _ _ _ (Option.some.inj hP) rfl dX11_years_25
  · replace hP := ite_f hc6 hP
    refine V_aload_n hX dX11_years_17 0 rfl ?_
    refine V_getI hX fk_X11_113 tb_88 (fun _ _ _ => rfl) dX11_years_18 ?_
    refine V_if_ne (tgt := 26) hX dX11_years_21 (by decide) (fun hc7 => ?_) (fun hc7 => ?_)
    · replace hP := ite_f hc7 hP
      refine V_iload_n hX dX11_years_26 1 rfl ?_
      refine V_istore_n (lv' := [(3, .int x1), (0, rf S 88), (1, .int x1), (2, .int x2)]) hX dX11_years_27 (by decide) rfl ?_
      refine V_iconst (v := 0) hX dX11_years_28 (by decide) ?_
      refine V_istore (lv' := [(4, .int 0), (3, .int x1), (0, rf S 88), (1, .int x1), (2, .int x2)]) hX dX11_years_29 (by decide) rfl ?_
      refine V_aload_n hX dX11_years_31 2 rfl ?_
      obtain ⟨w8, hcw8, hP⟩ := bnv_e hP
      refine V_callVv (As := []) (rest := []) hX mk_X11_333 nk_X11_puts (fun l => c_X11_puts l S  hcw8) tb_88 rfl ⟨rfl, rfl, Nat.le_of_ble_eq_true rfl, Nat.le_of_ble_eq_true rfl⟩ rfl rfl (Nat.le_of_ble_eq_true rfl) dX11_years_32 ?_
      refine V_iconst (v := 0) hX dX11_years_35 (by decide) ?_
      refine V_istore (lv' := [(5, .int 0), (4, .int 0), (3, .int x1), (0, rf S 88), (1, .int x1), (2, .int x2)]) hX dX11_years_36 (by decide) rfl ?_
      refine V_sub (lv' := [(0, rf S 88), (2, .int x2), (3, .int x1), (4, .int 0), (5, .int 0), (1, .int x1)]) [3, 5, 2, 1, 0, 4] rfl ?_
      have k42 : ∀ (w : Wd) (x12 : Int32) , (lt (sI w 88 1 0) (fun w31 => bnv (P_X11_enters F w31 (Int32.toInt64 x12)) (fun w32 => bnd (P_X11_sumOf F w32 ((ishlI 1 (gI w32 88 3)) - 1) 96) (fun x34 w33 => bnv (P_X11_enters F w33 (Int32.toInt64 x34)) (fun w35 => gd (inB 15 16) (bnd (P_J6_bitCount_0f7a4 F w35 (gI w35 96 15)) (fun x38 w37 => bnv (P_X11_enters F w37 (Int32.toInt64 x38)) (fun w39 => gd (inB 13 16) (gd (inB 13 16) (some ((gI w39 96 13) - (gI w39 95 13), w39))))))))))) = some r → V X S w 111 [(0, rf S 88), (4, .int x12)] [] := by
        intro w x12  hP
        refine V_aload_n hX dX11_years_111 0 rfl ?_
        refine V_iconst (v := 0) hX dX11_years_112 (by decide) ?_
        refine V_putI hX fw_X11_110 tb_88 (fun _ _ _ => ⟨Nat.le_of_ble_eq_true rfl, rfl⟩) dX11_years_113 (fun w31 ew31 => ?_)
        replace hP := lt_r ew31 hP
        refine V_aload_n hX dX11_years_116 0 rfl ?_
        refine V_iload hX dX11_years_117 1 rfl ?_
        refine V_i2l hX dX11_years_119 ?_
        obtain ⟨w32, hcw32, hP⟩ := bnv_e hP
        refine V_callVv (As := [.long (Int32.toInt64 x12)]) (rest := []) hX mk_X11_316 nk_X11_enters (fun l => c_X11_enters l S  hcw32) tb_88 rfl ⟨rfl, rfl, Nat.le_of_ble_eq_true rfl, Nat.le_of_ble_eq_true rfl⟩ rfl rfl (Nat.le_of_ble_eq_true rfl) dX11_years_120 ?_
        refine V_aload_n hX dX11_years_123 0 rfl ?_
        refine V_aload_n hX dX11_years_124 0 rfl ?_
        refine V_iconst (v := 1) hX dX11_years_125 (by decide) ?_
        refine V_aload_n hX dX11_years_126 0 rfl ?_
        refine V_getI hX fk_X11_113 tb_88 (fun _ _ _ => rfl) dX11_years_127 ?_
        refine V_ishl hX dX11_years_130 ?_
        refine V_iconst (v := 1) hX dX11_years_131 (by decide) ?_
        refine V_isub hX dX11_years_132 ?_
        refine V_aload_n hX dX11_years_133 0 rfl ?_
        refine V_getF (j := 96) hX fk_X11_32 tb_88 (fun _ _ _ => rfl) dX11_years_134 ?_
        obtain ⟨x34, w33, hcw33, hP⟩ := bnd_e hP
        refine V_callVi (As := [.int ((ishlI 1 (gI w32 88 3)) - 1), rf S 96]) (rest := [rf S 88]) hX mk_X11_244 nk_X11_sumOf (fun l => c_X11_sumOf l S (by decide) hcw33) tb_88 rfl ⟨rfl, rfl, Nat.le_of_ble_eq_true rfl, Nat.le_of_ble_eq_true rfl⟩ rfl rfl (Nat.le_of_ble_eq_true rfl) dX11_years_137 ?_
        refine V_i2l hX dX11_years_140 ?_
        obtain ⟨w35, hcw35, hP⟩ := bnv_e hP
        refine V_callVv (As := [.long (Int32.toInt64 x34)]) (rest := []) hX mk_X11_316 nk_X11_enters (fun l => c_X11_enters l S  hcw35) tb_88 rfl ⟨rfl, rfl, Nat.le_of_ble_eq_true rfl, Nat.le_of_ble_eq_true rfl⟩ rfl rfl (Nat.le_of_ble_eq_true rfl) dX11_years_141 ?_
        refine V_aload_n hX dX11_years_144 0 rfl ?_
        refine V_aload_n hX dX11_years_145 0 rfl ?_
        refine V_getF (j := 96) hX fk_X11_32 tb_88 (fun _ _ _ => rfl) dX11_years_146 ?_
        refine V_bipush (v := 15) hX dX11_years_149 (by decide) ?_
        obtain ⟨hi36, hP⟩ := gd_e hP
        refine V_iald hX tb_96 hi36 dX11_years_151 ?_
        obtain ⟨x38, w37, hcw37, hP⟩ := bnd_e hP
        refine V_callSi (As := [.int (gI w35 96 15)]) (rest := [rf S 88]) hX mk_X11_248 nk_J6_bitCount_0f7a4 (fun l => c_J6_bitCount_0f7a4 l S  hcw37) ⟨rfl, rfl, Nat.le_of_ble_eq_true rfl, Nat.le_of_ble_eq_true rfl⟩ rfl rfl (Nat.le_of_ble_eq_true rfl) dX11_years_152 ?_
        refine V_i2l hX dX11_years_155 ?_
        obtain ⟨w39, hcw39, hP⟩ := bnv_e hP
        refine V_callVv (As := [.long (Int32.toInt64 x38)]) (rest := []) hX mk_X11_316 nk_X11_enters (fun l => c_X11_enters l S  hcw39) tb_88 rfl ⟨rfl, rfl, Nat.le_of_ble_eq_true rfl, Nat.le_of_ble_eq_true rfl⟩ rfl rfl (Nat.le_of_ble_eq_true rfl) dX11_years_156 ?_
        refine V_aload_n hX dX11_years_159 0 rfl ?_
        refine V_getF (j := 96) hX fk_X11_32 tb_88 (fun _ _ _ => rfl) dX11_years_160 ?_
        refine V_bipush (v := 13) hX dX11_years_163 (by decide) ?_
        obtain ⟨hi40, hP⟩ := gd_e hP
        refine V_iald hX tb_96 hi40 dX11_years_165 ?_
        refine V_aload_n hX dX11_years_166 0 rfl ?_
        refine V_getF (j := 95) hX fk_X11_29 tb_88 (fun _ _ _ => rfl) dX11_years_167 ?_
        refine V_bipush (v := 13) hX dX11_years_170 (by decide) ?_
        obtain ⟨hi41, hP⟩ := gd_e hP
        refine V_iald hX tb_95 hi41 dX11_years_172 ?_
        refine V_isub hX dX11_years_173 ?_
        exact hR _ _ _ _ (Option.some.inj hP) rfl dX11_years_174
      exact sL_X11_years_38 hX hR  k42 F _ _ _ _  hP
    · replace hP := ite_t hc7 hP
      refine V_iconst (v := (-1)) hX dX11_years_24 (by decide) ?_
      exact hR _ _ _ _ (Option.some.inj hP) rfl dX11_years_25
theorem c_X11_years (l : Launch) (S : Sx) {r : Int32 × Wd} {F : Nat} {w : Wd} {x1 : Int32} {x2 : Int32}  (h : P_X11_years F w x1 x2 = some r) : Met l yX11_years (wsg yX11_years cX11_years 7 (some .int)) rm_X11_years (PC S w [rf S 88, .int x1, .int x2]) (QCi S r) 0 0 (Aw S) :=
  met_i (by decide) rfl (Nat.le_of_ble_eq_true rfl) ⟨rfl, rfl⟩ (fun X hX hR => s_X11_years  hX hR h)

-- MustNotStopModel.keep(I)Z
abbrev rm_X11_keep : Room := { frames := 2, cells := 0, slots := 0, locals := 89 }
theorem nk_X11_keep : MNk yX11_keep RX11 1 := ⟨rfl, by decide, by decide, by decide +kernel⟩
def L_X11_keep_38 (F : Nat) (x1 : Int32) (k67 : Wd → Option (Int32 × Wd)) : Nat → Wd → Int32 → Option (Int32 × Wd)
  | 0, _, _ => none
  | n + 1, w, x10 => (if (16 : Int32) ≤ x10 then k67 w  else gd (inB x10 16) (gd (inB ((16 * x1) + x10) 48) (lt (sI w 118 ((16 * x1) + x10).toNatClampNeg (gI w 95 x10.toNatClampNeg)) (fun w14 => lt (x10 + 1 : Int32) (fun x15 => L_X11_keep_38 F x1 k67 n w14 x15)))))
set_option maxRecDepth 100000 in
set_option maxHeartbeats 4000000 in
theorem sL_X11_keep_38 {X : Cx} {S : Sx} {r : Int32 × Wd} {F : Nat} {x1 : Int32} {k67 : Wd → Option (Int32 × Wd)} (hX : Ok X S cX11_keep RX11 3 rm_X11_keep) (hR : HRt X S cX11_keep .boolean r)  (hk67 : ∀ (w : Wd), k67 w = some r → V X S w 67 [] []) : ∀ (n : Nat) (w : Wd) (x10 : Int32) , L_X11_keep_38 F x1 k67 n w x10 = some r → V X S w 38 [(0, rf S 88), (1, .int x1), (2, .int x10)] [] := by
  intro n
  induction n with
  | zero =>
    intro w x10  hP
    exact nn hP
  | succ n ih =>
    intro w x10  hP
    rw [L_X11_keep_38] at hP
    refine V_iload_n hX dX11_keep_38 2 rfl ?_
    refine V_bipush (v := 16) hX dX11_keep_39 (by decide) ?_
    refine V_icmp_ge (tgt := 67) hX dX11_keep_41 (by decide) (fun hc11 => ?_) (fun hc11 => ?_)
    · replace hP := ite_t hc11 hP
      refine V_sub (lv' := []) [] rfl ?_
      exact hk67 _   hP
    · replace hP := ite_f hc11 hP
      refine V_aload_n hX dX11_keep_44 0 rfl ?_
      refine V_getF (j := 118) hX fk_X11_99 tb_88 (fun _ _ _ => rfl) dX11_keep_45 ?_
      refine V_bipush (v := 16) hX dX11_keep_48 (by decide) ?_
      refine V_iload_n hX dX11_keep_50 1 rfl ?_
      refine V_imul hX dX11_keep_51 ?_
      refine V_iload_n hX dX11_keep_52 2 rfl ?_
      refine V_iadd hX dX11_keep_53 ?_
      refine V_aload_n hX dX11_keep_54 0 rfl ?_
      refine V_getF (j := 95) hX fk_X11_29 tb_88 (fun _ _ _ => rfl) dX11_keep_55 ?_
      refine V_iload_n hX dX11_keep_58 2 rfl ?_
      obtain ⟨hi12, hP⟩ := gd_e hP
      refine V_iald hX tb_95 hi12 dX11_keep_59 ?_
      obtain ⟨hi13, hP⟩ := gd_e hP
      refine V_iast hX tb_118 hi13 dX11_keep_60 (fun w14 ew14 => ?_)
      replace hP := lt_r ew14 hP
      obtain ⟨x15, ex15⟩ : ∃ y : Int32, y = x10 + 1 := ⟨_, rfl⟩
      replace hP := lt_r ex15 hP
      refine V_iinc (v := x15) (lv' := [(2, .int x15), (0, rf S 88), (1, .int x1)]) hX dX11_keep_61 (j := 2) rfl (by decide) (by rw [ex15]; rfl) rfl ?_
      refine V_goto (tgt := 38) hX dX11_keep_64 (by decide) ?_
      refine V_sub (lv' := [(0, rf S 88), (1, .int x1), (2, .int x15)]) [1, 2, 0] rfl ?_
      exact ih _ _  hP
def P_X11_keep (F : Nat) (w : Wd) (x1 : Int32) : Option (Int32 × Wd) := lt (sI w 88 0 0) (fun w2 => bnd (P_X11_in F w2 (Int32.toInt64 x1) 0 2) (fun x4 w3 => (if x4 = 0 then some (0, w3) else gd (inB x1 3) (lt (sI w3 116 x1.toNatClampNeg 1) (fun w7 => gd (inB x1 3) (lt (sI w7 117 x1.toNatClampNeg (gI w7 88 5)) (fun w9 => L_X11_keep_38 F x1 (fun w  => some (1, w)) F w9 0)))))))
set_option maxRecDepth 100000 in
set_option maxHeartbeats 4000000 in
theorem s_X11_keep {X : Cx} {S : Sx} {r : Int32 × Wd} {F : Nat} {w : Wd} {x1 : Int32}  (hX : Ok X S cX11_keep RX11 3 rm_X11_keep) (hR : HRt X S cX11_keep .boolean r) (hP : P_X11_keep F w x1 = some r) : V X S w 0 [(0, rf S 88), (1, .int x1)] [] := by
  unfold P_X11_keep at hP
  refine V_aload_n hX dX11_keep_0 0 rfl ?_
  refine V_iconst (v := 0) hX dX11_keep_1 (by decide) ?_
  refine V_putI hX fw_X11_102 tb_88 (fun _ _ _ => ⟨Nat.le_of_ble_eq_true rfl, rfl⟩) dX11_keep_2 (fun w2 ew2 => ?_)
  replace hP := lt_r ew2 hP
  refine V_iload_n hX dX11_keep_5 1 rfl ?_
  refine V_i2l hX dX11_keep_6 ?_
  refine V_lconst (v := 0) hX dX11_keep_7 rfl ?_
  refine V_ldc2 (v := 2) hX dX11_keep_8 cn_X11_272 ?_
  obtain ⟨x4, w3, hcw3, hP⟩ := bnd_e hP
  refine V_callSi (As := [.long (Int32.toInt64 x1), .long 0, .long 2]) (rest := []) hX mk_X11_116 nk_X11_in (fun l => c_X11_in l S  hcw3) ⟨rfl, rfl, Nat.le_of_ble_eq_true rfl, Nat.le_of_ble_eq_true rfl⟩ rfl rfl (Nat.le_of_ble_eq_true rfl) dX11_keep_11 ?_
  refine V_if_ne (tgt := 19) hX dX11_keep_14 (by decide) (fun hc5 => ?_) (fun hc5 => ?_)
  · replace hP := ite_f hc5 hP
    refine V_aload_n hX dX11_keep_19 0 rfl ?_
    refine V_getF (j := 116) hX fk_X11_93 tb_88 (fun _ _ _ => rfl) dX11_keep_20 ?_
    refine V_iload_n hX dX11_keep_23 1 rfl ?_
    refine V_iconst (v := 1) hX dX11_keep_24 (by decide) ?_
    obtain ⟨hi6, hP⟩ := gd_e hP
    refine V_zast hX tb_116 hi6 (by decide) dX11_keep_25 (fun w7 ew7 => ?_)
    replace hP := lt_r ew7 hP
    refine V_aload_n hX dX11_keep_26 0 rfl ?_
    refine V_getF (j := 117) hX fk_X11_96 tb_88 (fun _ _ _ => rfl) dX11_keep_27 ?_
    refine V_iload_n hX dX11_keep_30 1 rfl ?_
    refine V_aload_n hX dX11_keep_31 0 rfl ?_
    refine V_getI hX fk_X11_193 tb_88 (fun _ _ _ => rfl) dX11_keep_32 ?_
    obtain ⟨hi8, hP⟩ := gd_e hP
    refine V_iast hX tb_117 hi8 dX11_keep_35 (fun w9 ew9 => ?_)
    replace hP := lt_r ew9 hP
    refine V_iconst (v := 0) hX dX11_keep_36 (by decide) ?_
    refine V_istore_n (lv' := [(2, .int 0), (0, rf S 88), (1, .int x1)]) hX dX11_keep_37 (by decide) rfl ?_
    refine V_sub (lv' := [(0, rf S 88), (1, .int x1), (2, .int 0)]) [1, 2, 0] rfl ?_
    have k16 : ∀ (w : Wd)  , (some (1, w)) = some r → V X S w 67 [] [] := by
      intro w   hP
      refine V_iconst (v := 1) hX dX11_keep_67 (by decide) ?_
      exact hR _ _ _ _ (Option.some.inj hP) rfl dX11_keep_68
    exact sL_X11_keep_38 hX hR  k16 F _ _  hP
  · replace hP := ite_t hc5 hP
    refine V_iconst (v := 0) hX dX11_keep_17 (by decide) ?_
    exact hR _ _ _ _ (Option.some.inj hP) rfl dX11_keep_18
theorem c_X11_keep (l : Launch) (S : Sx) {r : Int32 × Wd} {F : Nat} {w : Wd} {x1 : Int32}  (h : P_X11_keep F w x1 = some r) : Met l yX11_keep (wsg yX11_keep cX11_keep 3 (some .boolean)) rm_X11_keep (PC S w [rf S 88, .int x1]) (QCi S r) 0 0 (Aw S) :=
  met_i (by decide) rfl (Nat.le_of_ble_eq_true rfl) ⟨rfl, rfl⟩ (fun X hX hR => s_X11_keep  hX hR h)

-- MustNotStopModel.again(I)Z
abbrev rm_X11_again : Room := { frames := 2, cells := 0, slots := 0, locals := 89 }
theorem nk_X11_again : MNk yX11_again RX11 1 := ⟨rfl, by decide, by decide, by decide +kernel⟩
def L_X11_again_43 (F : Nat) (x1 : Int32) (k72 : Wd → Option (Int32 × Wd)) : Nat → Wd → Int32 → Option (Int32 × Wd)
  | 0, _, _ => none
  | n + 1, w, x10 => (if (16 : Int32) ≤ x10 then k72 w  else gd (inB ((16 * x1) + x10) 48) (gd (inB x10 16) (lt (sI w 95 x10.toNatClampNeg (gI w 118 ((16 * x1) + x10).toNatClampNeg)) (fun w14 => lt (x10 + 1 : Int32) (fun x15 => L_X11_again_43 F x1 k72 n w14 x15)))))
set_option maxRecDepth 100000 in
set_option maxHeartbeats 4000000 in
theorem sL_X11_again_43 {X : Cx} {S : Sx} {r : Int32 × Wd} {F : Nat} {x1 : Int32} {k72 : Wd → Option (Int32 × Wd)} (hX : Ok X S cX11_again RX11 3 rm_X11_again) (hR : HRt X S cX11_again .boolean r)  (hk72 : ∀ (w : Wd), k72 w = some r → V X S w 72 [(0, rf S 88)] []) : ∀ (n : Nat) (w : Wd) (x10 : Int32) , L_X11_again_43 F x1 k72 n w x10 = some r → V X S w 43 [(0, rf S 88), (1, .int x1), (2, .int x10)] [] := by
  intro n
  induction n with
  | zero =>
    intro w x10  hP
    exact nn hP
  | succ n ih =>
    intro w x10  hP
    rw [L_X11_again_43] at hP
    refine V_iload_n hX dX11_again_43 2 rfl ?_
    refine V_bipush (v := 16) hX dX11_again_44 (by decide) ?_
    refine V_icmp_ge (tgt := 72) hX dX11_again_46 (by decide) (fun hc11 => ?_) (fun hc11 => ?_)
    · replace hP := ite_t hc11 hP
      refine V_sub (lv' := [(0, rf S 88)]) [0] rfl ?_
      exact hk72 _   hP
    · replace hP := ite_f hc11 hP
      refine V_aload_n hX dX11_again_49 0 rfl ?_
      refine V_getF (j := 95) hX fk_X11_29 tb_88 (fun _ _ _ => rfl) dX11_again_50 ?_
      refine V_iload_n hX dX11_again_53 2 rfl ?_
      refine V_aload_n hX dX11_again_54 0 rfl ?_
      refine V_getF (j := 118) hX fk_X11_99 tb_88 (fun _ _ _ => rfl) dX11_again_55 ?_
      refine V_bipush (v := 16) hX dX11_again_58 (by decide) ?_
      refine V_iload_n hX dX11_again_60 1 rfl ?_
      refine V_imul hX dX11_again_61 ?_
      refine V_iload_n hX dX11_again_62 2 rfl ?_
      refine V_iadd hX dX11_again_63 ?_
      obtain ⟨hi12, hP⟩ := gd_e hP
      refine V_iald hX tb_118 hi12 dX11_again_64 ?_
      obtain ⟨hi13, hP⟩ := gd_e hP
      refine V_iast hX tb_95 hi13 dX11_again_65 (fun w14 ew14 => ?_)
      replace hP := lt_r ew14 hP
      obtain ⟨x15, ex15⟩ : ∃ y : Int32, y = x10 + 1 := ⟨_, rfl⟩
      replace hP := lt_r ex15 hP
      refine V_iinc (v := x15) (lv' := [(2, .int x15), (0, rf S 88), (1, .int x1)]) hX dX11_again_66 (j := 2) rfl (by decide) (by rw [ex15]; rfl) rfl ?_
      refine V_goto (tgt := 43) hX dX11_again_69 (by decide) ?_
      refine V_sub (lv' := [(0, rf S 88), (1, .int x1), (2, .int x15)]) [1, 2, 0] rfl ?_
      exact ih _ _  hP
def P_X11_again (F : Nat) (w : Wd) (x1 : Int32) : Option (Int32 × Wd) := lt (sI w 88 0 0) (fun w2 => bnd (P_X11_in F w2 (Int32.toInt64 x1) 0 2) (fun x4 w3 => (if x4 = 0 then some (0, w3) else gd (inB x1 3) ((if (gI w3 116 x1.toNatClampNeg) = 0 then some (0, w3) else gd (inB x1 3) ((if (gI w3 117 x1.toNatClampNeg) = (gI w3 88 5) then L_X11_again_43 F x1 (fun w  => lt (sI w 88 26 0) (fun w16 => some (1, w16))) F w3 0 else some (0, w3))))))))
set_option maxRecDepth 100000 in
set_option maxHeartbeats 4000000 in
theorem s_X11_again {X : Cx} {S : Sx} {r : Int32 × Wd} {F : Nat} {w : Wd} {x1 : Int32}  (hX : Ok X S cX11_again RX11 3 rm_X11_again) (hR : HRt X S cX11_again .boolean r) (hP : P_X11_again F w x1 = some r) : V X S w 0 [(0, rf S 88), (1, .int x1)] [] := by
  unfold P_X11_again at hP
  refine V_aload_n hX dX11_again_0 0 rfl ?_
  refine V_iconst (v := 0) hX dX11_again_1 (by decide) ?_
  refine V_putI hX fw_X11_102 tb_88 (fun _ _ _ => ⟨Nat.le_of_ble_eq_true rfl, rfl⟩) dX11_again_2 (fun w2 ew2 => ?_)
  replace hP := lt_r ew2 hP
  refine V_iload_n hX dX11_again_5 1 rfl ?_
  refine V_i2l hX dX11_again_6 ?_
  refine V_lconst (v := 0) hX dX11_again_7 rfl ?_
  refine V_ldc2 (v := 2) hX dX11_again_8 cn_X11_272 ?_
  obtain ⟨x4, w3, hcw3, hP⟩ := bnd_e hP
  refine V_callSi (As := [.long (Int32.toInt64 x1), .long 0, .long 2]) (rest := []) hX mk_X11_116 nk_X11_in (fun l => c_X11_in l S  hcw3) ⟨rfl, rfl, Nat.le_of_ble_eq_true rfl, Nat.le_of_ble_eq_true rfl⟩ rfl rfl (Nat.le_of_ble_eq_true rfl) dX11_again_11 ?_
  refine V_if_eq (tgt := 39) hX dX11_again_14 (by decide) (fun hc5 => ?_) (fun hc5 => ?_)
  · replace hP := ite_t hc5 hP
    refine V_iconst (v := 0) hX dX11_again_39 (by decide) ?_
    exact hR _ _ _ _ (Option.some.inj hP) rfl dX11_again_40
  · replace hP := ite_f hc5 hP
    refine V_aload_n hX dX11_again_17 0 rfl ?_
    refine V_getF (j := 116) hX fk_X11_93 tb_88 (fun _ _ _ => rfl) dX11_again_18 ?_
    refine V_iload_n hX dX11_again_21 1 rfl ?_
    obtain ⟨hi6, hP⟩ := gd_e hP
    refine V_zald hX tb_116 hi6 dX11_again_22 ?_
    refine V_if_eq (tgt := 39) hX dX11_again_23 (by decide) (fun hc7 => ?_) (fun hc7 => ?_)
    · replace hP := ite_t hc7 hP
      refine V_iconst (v := 0) hX dX11_again_39 (by decide) ?_
      exact hR _ _ _ _ (Option.some.inj hP) rfl dX11_again_40
    · replace hP := ite_f hc7 hP
      refine V_aload_n hX dX11_again_26 0 rfl ?_
      refine V_getF (j := 117) hX fk_X11_96 tb_88 (fun _ _ _ => rfl) dX11_again_27 ?_
      refine V_iload_n hX dX11_again_30 1 rfl ?_
      obtain ⟨hi8, hP⟩ := gd_e hP
      refine V_iald hX tb_117 hi8 dX11_again_31 ?_
      refine V_aload_n hX dX11_again_32 0 rfl ?_
      refine V_getI hX fk_X11_193 tb_88 (fun _ _ _ => rfl) dX11_again_33 ?_
      refine V_icmp_eq (tgt := 41) hX dX11_again_36 (by decide) (fun hc9 => ?_) (fun hc9 => ?_)
      · replace hP := ite_t hc9 hP
        refine V_iconst (v := 0) hX dX11_again_41 (by decide) ?_
        refine V_istore_n (lv' := [(2, .int 0), (0, rf S 88), (1, .int x1)]) hX dX11_again_42 (by decide) rfl ?_
        refine V_sub (lv' := [(0, rf S 88), (1, .int x1), (2, .int 0)]) [1, 2, 0] rfl ?_
        have k17 : ∀ (w : Wd)  , (lt (sI w 88 26 0) (fun w16 => some (1, w16))) = some r → V X S w 72 [(0, rf S 88)] [] := by
          intro w   hP
          refine V_aload_n hX dX11_again_72 0 rfl ?_
          refine V_iconst (v := 0) hX dX11_again_73 (by decide) ?_
          refine V_putI hX fw_X11_190 tb_88 (fun _ _ _ => ⟨Nat.le_of_ble_eq_true rfl, rfl⟩) dX11_again_74 (fun w16 ew16 => ?_)
          replace hP := lt_r ew16 hP
          refine V_iconst (v := 1) hX dX11_again_77 (by decide) ?_
          exact hR _ _ _ _ (Option.some.inj hP) rfl dX11_again_78
        exact sL_X11_again_43 hX hR  k17 F _ _  hP
      · replace hP := ite_f hc9 hP
        refine V_iconst (v := 0) hX dX11_again_39 (by decide) ?_
        exact hR _ _ _ _ (Option.some.inj hP) rfl dX11_again_40
theorem c_X11_again (l : Launch) (S : Sx) {r : Int32 × Wd} {F : Nat} {w : Wd} {x1 : Int32}  (h : P_X11_again F w x1 = some r) : Met l yX11_again (wsg yX11_again cX11_again 3 (some .boolean)) rm_X11_again (PC S w [rf S 88, .int x1]) (QCi S r) 0 0 (Aw S) :=
  met_i (by decide) rfl (Nat.le_of_ble_eq_true rfl) ⟨rfl, rfl⟩ (fun X hX hR => s_X11_again  hX hR h)

-- MustNotStopModel.count(I)I
abbrev rm_X11_count : Room := { frames := 1, cells := 0, slots := 0, locals := 64 }
theorem nk_X11_count : MNk yX11_count RX11 1 := ⟨rfl, by decide, by decide, by decide +kernel⟩
def P_X11_count (F : Nat) (w : Wd) (x1 : Int32) : Option (Int32 × Wd) := lt (sI w 88 0 0) (fun w2 => (if x1 = 0 then some (gI w2 88 3, w2) else (if x1 = 1 then some (gI w2 88 4, w2) else (if x1 = 2 then gd (inB 8 16) (some (gI w2 95 8, w2)) else (if x1 = 3 then gd (inB 9 16) (some (gI w2 95 9, w2)) else (if x1 = 4 then gd (inB 10 16) (some (gI w2 95 10, w2)) else (if x1 = 5 then gd (inB 11 16) (some (gI w2 95 11, w2)) else (if x1 = 6 then gd (inB 12 16) (some (gI w2 95 12, w2)) else (if x1 = 7 then gd (inB 13 16) (some (gI w2 95 13, w2)) else (if x1 = 8 then gd (inB 14 16) (some (gI w2 95 14, w2)) else (if x1 = 9 then gd (inB 15 16) (some (gI w2 95 15, w2)) else (if x1 = 10 then gd (inB 0 3) (some (gI w2 94 0, w2)) else (if x1 = 11 then gd (inB 1 3) (some (gI w2 94 1, w2)) else (if x1 = 12 then gd (inB 2 3) (some (gI w2 94 2, w2)) else (if x1 = 13 then some (gI w2 88 37, w2) else (if x1 = 14 then some (gI w2 88 26, w2) else (if x1 = 15 then some (gI w2 88 1, w2) else (if x1 = 16 then some (gI w2 88 14, w2) else some ((-100), w2)))))))))))))))))))
set_option maxRecDepth 100000 in
set_option maxHeartbeats 4000000 in
theorem s_X11_count {X : Cx} {S : Sx} {r : Int32 × Wd} {F : Nat} {w : Wd} {x1 : Int32}  (hX : Ok X S cX11_count RX11 2 rm_X11_count) (hR : HRt X S cX11_count .int r) (hP : P_X11_count F w x1 = some r) : V X S w 0 [(0, rf S 88), (1, .int x1)] [] := by
  unfold P_X11_count at hP
  refine V_aload_n hX dX11_count_0 0 rfl ?_
  refine V_iconst (v := 0) hX dX11_count_1 (by decide) ?_
  refine V_putI hX fw_X11_102 tb_88 (fun _ _ _ => ⟨Nat.le_of_ble_eq_true rfl, rfl⟩) dX11_count_2 (fun w2 ew2 => ?_)
  replace hP := lt_r ew2 hP
  refine V_iload_n hX dX11_count_5 1 rfl ?_
  by_cases hc3 : x1 = 0
  · replace hP := ite_t hc3 hP
    refine V_tableIn (tgt := 88) hX dX11_count_6 (by rw [hc3]; decide) (by rw [hc3]; decide) (by rw [hc3] <;> rfl) (by decide) ?_
    refine V_aload_n hX dX11_count_88 0 rfl ?_
    refine V_getI hX fk_X11_113 tb_88 (fun _ _ _ => rfl) dX11_count_89 ?_
    exact hR _ _ _ _ (Option.some.inj hP) rfl dX11_count_92
  replace hP := ite_f hc3 hP
  by_cases hc4 : x1 = 1
  · replace hP := ite_t hc4 hP
    refine V_tableIn (tgt := 93) hX dX11_count_6 (by rw [hc4]; decide) (by rw [hc4]; decide) (by rw [hc4] <;> rfl) (by decide) ?_
    refine V_aload_n hX dX11_count_93 0 rfl ?_
    refine V_getI hX fk_X11_202 tb_88 (fun _ _ _ => rfl) dX11_count_94 ?_
    exact hR _ _ _ _ (Option.some.inj hP) rfl dX11_count_97
  replace hP := ite_f hc4 hP
  by_cases hc5 : x1 = 2
  · replace hP := ite_t hc5 hP
    refine V_tableIn (tgt := 98) hX dX11_count_6 (by rw [hc5]; decide) (by rw [hc5]; decide) (by rw [hc5] <;> rfl) (by decide) ?_
    refine V_aload_n hX dX11_count_98 0 rfl ?_
    refine V_getF (j := 95) hX fk_X11_29 tb_88 (fun _ _ _ => rfl) dX11_count_99 ?_
    refine V_bipush (v := 8) hX dX11_count_102 (by decide) ?_
    obtain ⟨hi6, hP⟩ := gd_e hP
    refine V_iald hX tb_95 hi6 dX11_count_104 ?_
    exact hR _ _ _ _ (Option.some.inj hP) rfl dX11_count_105
  replace hP := ite_f hc5 hP
  by_cases hc7 : x1 = 3
  · replace hP := ite_t hc7 hP
    refine V_tableIn (tgt := 106) hX dX11_count_6 (by rw [hc7]; decide) (by rw [hc7]; decide) (by rw [hc7] <;> rfl) (by decide) ?_
    refine V_aload_n hX dX11_count_106 0 rfl ?_
    refine V_getF (j := 95) hX fk_X11_29 tb_88 (fun _ _ _ => rfl) dX11_count_107 ?_
    refine V_bipush (v := 9) hX dX11_count_110 (by decide) ?_
    obtain ⟨hi8, hP⟩ := gd_e hP
    refine V_iald hX tb_95 hi8 dX11_count_112 ?_
    exact hR _ _ _ _ (Option.some.inj hP) rfl dX11_count_113
  replace hP := ite_f hc7 hP
  by_cases hc9 : x1 = 4
  · replace hP := ite_t hc9 hP
    refine V_tableIn (tgt := 114) hX dX11_count_6 (by rw [hc9]; decide) (by rw [hc9]; decide) (by rw [hc9] <;> rfl) (by decide) ?_
    refine V_aload_n hX dX11_count_114 0 rfl ?_
    refine V_getF (j := 95) hX fk_X11_29 tb_88 (fun _ _ _ => rfl) dX11_count_115 ?_
    refine V_bipush (v := 10) hX dX11_count_118 (by decide) ?_
    obtain ⟨hi10, hP⟩ := gd_e hP
    refine V_iald hX tb_95 hi10 dX11_count_120 ?_
    exact hR _ _ _ _ (Option.some.inj hP) rfl dX11_count_121
  replace hP := ite_f hc9 hP
  by_cases hc11 : x1 = 5
  · replace hP := ite_t hc11 hP
    refine V_tableIn (tgt := 122) hX dX11_count_6 (by rw [hc11]; decide) (by rw [hc11]; decide) (by rw [hc11] <;> rfl) (by decide) ?_
    refine V_aload_n hX dX11_count_122 0 rfl ?_
    refine V_getF (j := 95) hX fk_X11_29 tb_88 (fun _ _ _ => rfl) dX11_count_123 ?_
    refine V_bipush (v := 11) hX dX11_count_126 (by decide) ?_
    obtain ⟨hi12, hP⟩ := gd_e hP
    refine V_iald hX tb_95 hi12 dX11_count_128 ?_
    exact hR _ _ _ _ (Option.some.inj hP) rfl dX11_count_129
  replace hP := ite_f hc11 hP
  by_cases hc13 : x1 = 6
  · replace hP := ite_t hc13 hP
    refine V_tableIn (tgt := 130) hX dX11_count_6 (by rw [hc13]; decide) (by rw [hc13]; decide) (by rw [hc13] <;> rfl) (by decide) ?_
    refine V_aload_n hX dX11_count_130 0 rfl ?_
    refine V_getF (j := 95) hX fk_X11_29 tb_88 (fun _ _ _ => rfl) dX11_count_131 ?_
    refine V_bipush (v := 12) hX dX11_count_134 (by decide) ?_
    obtain ⟨hi14, hP⟩ := gd_e hP
    refine V_iald hX tb_95 hi14 dX11_count_136 ?_
    exact hR _ _ _ _ (Option.some.inj hP) rfl dX11_count_137
  replace hP := ite_f hc13 hP
  by_cases hc15 : x1 = 7
  · replace hP := ite_t hc15 hP
    refine V_tableIn (tgt := 138) hX dX11_count_6 (by rw [hc15]; decide) (by rw [hc15]; decide) (by rw [hc15] <;> rfl) (by decide) ?_
    refine V_aload_n hX dX11_count_138 0 rfl ?_
    refine V_getF (j := 95) hX fk_X11_29 tb_88 (fun _ _ _ => rfl) dX11_count_139 ?_
    refine V_bipush (v := 13) hX dX11_count_142 (by decide) ?_
    obtain ⟨hi16, hP⟩ := gd_e hP
    refine V_iald hX tb_95 hi16 dX11_count_144 ?_
    exact hR _ _ _ _ (Option.some.inj hP) rfl dX11_count_145
  replace hP := ite_f hc15 hP
  by_cases hc17 : x1 = 8
  · replace hP := ite_t hc17 hP
    refine V_tableIn (tgt := 146) hX dX11_count_6 (by rw [hc17]; decide) (by rw [hc17]; decide) (by rw [hc17] <;> rfl) (by decide) ?_
    refine V_aload_n hX dX11_count_146 0 rfl ?_
    refine V_getF (j := 95) hX fk_X11_29 tb_88 (fun _ _ _ => rfl) dX11_count_147 ?_
    refine V_bipush (v := 14) hX dX11_count_150 (by decide) ?_
    obtain ⟨hi18, hP⟩ := gd_e hP
    refine V_iald hX tb_95 hi18 dX11_count_152 ?_
    exact hR _ _ _ _ (Option.some.inj hP) rfl dX11_count_153
  replace hP := ite_f hc17 hP
  by_cases hc19 : x1 = 9
  · replace hP := ite_t hc19 hP
    refine V_tableIn (tgt := 154) hX dX11_count_6 (by rw [hc19]; decide) (by rw [hc19]; decide) (by rw [hc19] <;> rfl) (by decide) ?_
    refine V_aload_n hX dX11_count_154 0 rfl ?_
    refine V_getF (j := 95) hX fk_X11_29 tb_88 (fun _ _ _ => rfl) dX11_count_155 ?_
    refine V_bipush (v := 15) hX dX11_count_158 (by decide) ?_
    obtain ⟨hi20, hP⟩ := gd_e hP
    refine V_iald hX tb_95 hi20 dX11_count_160 ?_
    exact hR _ _ _ _ (Option.some.inj hP) rfl dX11_count_161
  replace hP := ite_f hc19 hP
  by_cases hc21 : x1 = 10
  · replace hP := ite_t hc21 hP
    refine V_tableIn (tgt := 162) hX dX11_count_6 (by rw [hc21]; decide) (by rw [hc21]; decide) (by rw [hc21] <;> rfl) (by decide) ?_
    refine V_aload_n hX dX11_count_162 0 rfl ?_
    refine V_getF (j := 94) hX fk_X11_26 tb_88 (fun _ _ _ => rfl) dX11_count_163 ?_
    refine V_iconst (v := 0) hX dX11_count_166 (by decide) ?_
    obtain ⟨hi22, hP⟩ := gd_e hP
    refine V_iald hX tb_94 hi22 dX11_count_167 ?_
    exact hR _ _ _ _ (Option.some.inj hP) rfl dX11_count_168
  replace hP := ite_f hc21 hP
  by_cases hc23 : x1 = 11
  · replace hP := ite_t hc23 hP
    refine V_tableIn (tgt := 169) hX dX11_count_6 (by rw [hc23]; decide) (by rw [hc23]; decide) (by rw [hc23] <;> rfl) (by decide) ?_
    refine V_aload_n hX dX11_count_169 0 rfl ?_
    refine V_getF (j := 94) hX fk_X11_26 tb_88 (fun _ _ _ => rfl) dX11_count_170 ?_
    refine V_iconst (v := 1) hX dX11_count_173 (by decide) ?_
    obtain ⟨hi24, hP⟩ := gd_e hP
    refine V_iald hX tb_94 hi24 dX11_count_174 ?_
    exact hR _ _ _ _ (Option.some.inj hP) rfl dX11_count_175
  replace hP := ite_f hc23 hP
  by_cases hc25 : x1 = 12
  · replace hP := ite_t hc25 hP
    refine V_tableIn (tgt := 176) hX dX11_count_6 (by rw [hc25]; decide) (by rw [hc25]; decide) (by rw [hc25] <;> rfl) (by decide) ?_
    refine V_aload_n hX dX11_count_176 0 rfl ?_
    refine V_getF (j := 94) hX fk_X11_26 tb_88 (fun _ _ _ => rfl) dX11_count_177 ?_
    refine V_iconst (v := 2) hX dX11_count_180 (by decide) ?_
    obtain ⟨hi26, hP⟩ := gd_e hP
    refine V_iald hX tb_94 hi26 dX11_count_181 ?_
    exact hR _ _ _ _ (Option.some.inj hP) rfl dX11_count_182
  replace hP := ite_f hc25 hP
  by_cases hc27 : x1 = 13
  · replace hP := ite_t hc27 hP
    refine V_tableIn (tgt := 183) hX dX11_count_6 (by rw [hc27]; decide) (by rw [hc27]; decide) (by rw [hc27] <;> rfl) (by decide) ?_
    refine V_aload_n hX dX11_count_183 0 rfl ?_
    refine V_getI hX fk_X11_393 tb_88 (fun _ _ _ => rfl) dX11_count_184 ?_
    exact hR _ _ _ _ (Option.some.inj hP) rfl dX11_count_187
  replace hP := ite_f hc27 hP
  by_cases hc28 : x1 = 14
  · replace hP := ite_t hc28 hP
    refine V_tableIn (tgt := 188) hX dX11_count_6 (by rw [hc28]; decide) (by rw [hc28]; decide) (by rw [hc28] <;> rfl) (by decide) ?_
    refine V_aload_n hX dX11_count_188 0 rfl ?_
    refine V_getI hX fk_X11_190 tb_88 (fun _ _ _ => rfl) dX11_count_189 ?_
    exact hR _ _ _ _ (Option.some.inj hP) rfl dX11_count_192
  replace hP := ite_f hc28 hP
  by_cases hc29 : x1 = 15
  · replace hP := ite_t hc29 hP
    refine V_tableIn (tgt := 193) hX dX11_count_6 (by rw [hc29]; decide) (by rw [hc29]; decide) (by rw [hc29] <;> rfl) (by decide) ?_
    refine V_aload_n hX dX11_count_193 0 rfl ?_
    refine V_getI hX fk_X11_110 tb_88 (fun _ _ _ => rfl) dX11_count_194 ?_
    exact hR _ _ _ _ (Option.some.inj hP) rfl dX11_count_197
  replace hP := ite_f hc29 hP
  by_cases hc30 : x1 = 16
  · replace hP := ite_t hc30 hP
    refine V_tableIn (tgt := 198) hX dX11_count_6 (by rw [hc30]; decide) (by rw [hc30]; decide) (by rw [hc30] <;> rfl) (by decide) ?_
    refine V_aload_n hX dX11_count_198 0 rfl ?_
    refine V_getI hX fk_X11_120 tb_88 (fun _ _ _ => rfl) dX11_count_199 ?_
    exact hR _ _ _ _ (Option.some.inj hP) rfl dX11_count_202
  replace hP := ite_f hc30 hP
  refine V_tableOut (tgt := 203) hX dX11_count_6 (ts_out (fun k h1 h2 => by
      have hk : k = 0 ∨ k = 1 ∨ k = 2 ∨ k = 3 ∨ k = 4 ∨ k = 5 ∨ k = 6 ∨ k = 7 ∨ k = 8 ∨ k = 9 ∨ k = 10 ∨ k = 11 ∨ k = 12 ∨ k = 13 ∨ k = 14 ∨ k = 15 ∨ k = 16 := by omega
      rcases hk with rfl | rfl | rfl | rfl | rfl | rfl | rfl | rfl | rfl | rfl | rfl | rfl | rfl | rfl | rfl | rfl | rfl
      · exact fun e => hc3 (by rw [e]; rfl)
      · exact fun e => hc4 (by rw [e]; rfl)
      · exact fun e => hc5 (by rw [e]; rfl)
      · exact fun e => hc7 (by rw [e]; rfl)
      · exact fun e => hc9 (by rw [e]; rfl)
      · exact fun e => hc11 (by rw [e]; rfl)
      · exact fun e => hc13 (by rw [e]; rfl)
      · exact fun e => hc15 (by rw [e]; rfl)
      · exact fun e => hc17 (by rw [e]; rfl)
      · exact fun e => hc19 (by rw [e]; rfl)
      · exact fun e => hc21 (by rw [e]; rfl)
      · exact fun e => hc23 (by rw [e]; rfl)
      · exact fun e => hc25 (by rw [e]; rfl)
      · exact fun e => hc27 (by rw [e]; rfl)
      · exact fun e => hc28 (by rw [e]; rfl)
      · exact fun e => hc29 (by rw [e]; rfl)
      · exact fun e => hc30 (by rw [e]; rfl)
      )) (by decide) ?_
  refine V_bipush (v := (-100)) hX dX11_count_203 (by decide) ?_
  exact hR _ _ _ _ (Option.some.inj hP) rfl dX11_count_205
theorem c_X11_count (l : Launch) (S : Sx) {r : Int32 × Wd} {F : Nat} {w : Wd} {x1 : Int32}  (h : P_X11_count F w x1 = some r) : Met l yX11_count (wsg yX11_count cX11_count 2 (some .int)) rm_X11_count (PC S w [rf S 88, .int x1]) (QCi S r) 0 0 (Aw S) :=
  met_i (by decide) rfl (Nat.le_of_ble_eq_true rfl) ⟨rfl, rfl⟩ (fun X hX hR => s_X11_count  hX hR h)

-- MustNotStopModel.row(I)J
abbrev rm_X11_row : Room := { frames := 2, cells := 0, slots := 0, locals := 89 }
theorem nk_X11_row : MNk yX11_row RX11 1 := ⟨rfl, by decide, by decide, by decide +kernel⟩
def P_X11_row (F : Nat) (w : Wd) (x1 : Int32) : Option (Int64 × Wd) := lt (sI w 88 0 0) (fun w2 => bnd (P_X11_in F w2 (Int32.toInt64 x1) 0 (Int32.toInt64 ((gI w2 88 1) - 1))) (fun x4 w3 => (if x4 = 0 then lt (sI w3 88 0 1) (fun w7 => some (0, w7)) else gd (inB x1 24) (some (gJ w3 89 x1.toNatClampNeg, w3)))))
set_option maxRecDepth 100000 in
set_option maxHeartbeats 4000000 in
theorem s_X11_row {X : Cx} {S : Sx} {r : Int64 × Wd} {F : Nat} {w : Wd} {x1 : Int32}  (hX : Ok X S cX11_row RX11 2 rm_X11_row) (hR : HRl X S cX11_row r) (hP : P_X11_row F w x1 = some r) : V X S w 0 [(0, rf S 88), (1, .int x1)] [] := by
  unfold P_X11_row at hP
  refine V_aload_n hX dX11_row_0 0 rfl ?_
  refine V_iconst (v := 0) hX dX11_row_1 (by decide) ?_
  refine V_putI hX fw_X11_102 tb_88 (fun _ _ _ => ⟨Nat.le_of_ble_eq_true rfl, rfl⟩) dX11_row_2 (fun w2 ew2 => ?_)
  replace hP := lt_r ew2 hP
  refine V_iload_n hX dX11_row_5 1 rfl ?_
  refine V_i2l hX dX11_row_6 ?_
  refine V_lconst (v := 0) hX dX11_row_7 rfl ?_
  refine V_aload_n hX dX11_row_8 0 rfl ?_
  refine V_getI hX fk_X11_110 tb_88 (fun _ _ _ => rfl) dX11_row_9 ?_
  refine V_iconst (v := 1) hX dX11_row_12 (by decide) ?_
  refine V_isub hX dX11_row_13 ?_
  refine V_i2l hX dX11_row_14 ?_
  obtain ⟨x4, w3, hcw3, hP⟩ := bnd_e hP
  refine V_callSi (As := [.long (Int32.toInt64 x1), .long 0, .long (Int32.toInt64 ((gI w2 88 1) - 1))]) (rest := []) hX mk_X11_116 nk_X11_in (fun l => c_X11_in l S  hcw3) ⟨rfl, rfl, Nat.le_of_ble_eq_true rfl, Nat.le_of_ble_eq_true rfl⟩ rfl rfl (Nat.le_of_ble_eq_true rfl) dX11_row_15 ?_
  refine V_if_ne (tgt := 28) hX dX11_row_18 (by decide) (fun hc5 => ?_) (fun hc5 => ?_)
  · replace hP := ite_f hc5 hP
    refine V_aload_n hX dX11_row_28 0 rfl ?_
    refine V_getF (j := 89) hX fk_X11_9 tb_88 (fun _ _ _ => rfl) dX11_row_29 ?_
    refine V_iload_n hX dX11_row_32 1 rfl ?_
    obtain ⟨hi6, hP⟩ := gd_e hP
    refine V_lald hX tb_89 hi6 dX11_row_33 ?_
    exact hR _ _ _ _ (Option.some.inj hP) dX11_row_34
  · replace hP := ite_t hc5 hP
    refine V_aload_n hX dX11_row_21 0 rfl ?_
    refine V_iconst (v := 1) hX dX11_row_22 (by decide) ?_
    refine V_putI hX fw_X11_102 tb_88 (fun _ _ _ => ⟨Nat.le_of_ble_eq_true rfl, rfl⟩) dX11_row_23 (fun w7 ew7 => ?_)
    replace hP := lt_r ew7 hP
    refine V_lconst (v := 0) hX dX11_row_26 rfl ?_
    exact hR _ _ _ _ (Option.some.inj hP) dX11_row_27
theorem c_X11_row (l : Launch) (S : Sx) {r : Int64 × Wd} {F : Nat} {w : Wd} {x1 : Int32}  (h : P_X11_row F w x1 = some r) : Met l yX11_row (wsg yX11_row cX11_row 2 (some .long)) rm_X11_row (PC S w [rf S 88, .int x1]) (QCl S r) 0 0 (Aw S) :=
  met_l (by decide) rfl (Nat.le_of_ble_eq_true rfl) ⟨rfl, rfl⟩ (fun X hX hR => s_X11_row  hX hR h)
