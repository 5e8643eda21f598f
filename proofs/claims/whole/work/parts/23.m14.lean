-- MustNotStopModel.rotaOf(IIZ)I
abbrev rm_X11_rotaOf : Room := { frames := 151, cells := 0, slots := 0, locals := 13526 }
theorem nk_X11_rotaOf : MNk yX11_rotaOf RX11 3 := ⟨rfl, by decide, by decide, by decide +kernel⟩
def L_X11_rotaOf_36 (F : Nat) (x1 : Int32) (x2 : Int32) (x3 : Int32) (k60 : Wd → Option (Int32 × Wd)) : Nat → Wd → Int32 → Option (Int32 × Wd)
  | 0, _, _ => none
  | n + 1, w, x8 => (if x1 ≤ x8 then k60 w  else gd (inB x8 4) (bnv (P_X11_enters F w (Int32.toInt64 (gI w 108 x8.toNatClampNeg))) (fun w11 => lt (x8 + 1 : Int32) (fun x12 => L_X11_rotaOf_36 F x1 x2 x3 k60 n w11 x12))))
set_option maxRecDepth 100000 in
set_option maxHeartbeats 4000000 in
theorem sL_X11_rotaOf_36 {X : Cx} {S : Sx} {r : Int32 × Wd} {F : Nat} {x1 : Int32} {x2 : Int32} {x3 : Int32} {k60 : Wd → Option (Int32 × Wd)} (hX : Ok X S cX11_rotaOf RX11 5 rm_X11_rotaOf) (hR : HRt X S cX11_rotaOf .int r)  (hk60 : ∀ (w : Wd), k60 w = some r → V X S w 60 [(0, rf S 88)] []) : ∀ (n : Nat) (w : Wd) (x8 : Int32) , L_X11_rotaOf_36 F x1 x2 x3 k60 n w x8 = some r → V X S w 36 [(0, rf S 88), (1, .int x1), (4, .int x8), (2, .int x2), (3, .int x3)] [] := by
  intro n
  induction n with
  | zero =>
    intro w x8  hP
    exact nn hP
  | succ n ih =>
    intro w x8  hP
    rw [L_X11_rotaOf_36] at hP
    refine V_iload hX dX11_rotaOf_36 2 rfl ?_
    refine V_iload_n hX dX11_rotaOf_38 1 rfl ?_
    refine V_icmp_ge (tgt := 60) hX dX11_rotaOf_39 (by decide) (fun hc9 => ?_) (fun hc9 => ?_)
    · replace hP := ite_t hc9 hP
      refine V_sub (lv' := [(0, rf S 88)]) [0] rfl ?_
      exact hk60 _   hP
    · replace hP := ite_f hc9 hP
      refine V_aload_n hX dX11_rotaOf_42 0 rfl ?_
      refine V_aload_n hX dX11_rotaOf_43 0 rfl ?_
      refine V_getF (j := 108) hX fk_X11_68 tb_88 (fun _ _ _ => rfl) dX11_rotaOf_44 ?_
      refine V_iload hX dX11_rotaOf_47 2 rfl ?_
      obtain ⟨hi10, hP⟩ := gd_e hP
      refine V_iald hX tb_108 hi10 dX11_rotaOf_49 ?_
      refine V_i2l hX dX11_rotaOf_50 ?_
      obtain ⟨w11, hcw11, hP⟩ := bnv_e hP
      refine V_callVv (As := [.long (Int32.toInt64 (gI w 108 x8.toNatClampNeg))]) (rest := []) hX mk_X11_316 nk_X11_enters (fun l => c_X11_enters l S  hcw11) tb_88 rfl ⟨rfl, rfl, Nat.le_of_ble_eq_true rfl, Nat.le_of_ble_eq_true rfl⟩ rfl rfl (Nat.le_of_ble_eq_true rfl) dX11_rotaOf_51 ?_
      obtain ⟨x12, ex12⟩ : ∃ y : Int32, y = x8 + 1 := ⟨_, rfl⟩
      replace hP := lt_r ex12 hP
      refine V_iinc (v := x12) (lv' := [(4, .int x12), (0, rf S 88), (1, .int x1), (2, .int x2), (3, .int x3)]) hX dX11_rotaOf_54 (j := 2) rfl (by decide) (by rw [ex12]; rfl) rfl ?_
      refine V_goto (tgt := 36) hX dX11_rotaOf_57 (by decide) ?_
      refine V_sub (lv' := [(0, rf S 88), (1, .int x1), (4, .int x12), (2, .int x2), (3, .int x3)]) [1, 2, 0, 3, 4] rfl ?_
      exact ih _ _  hP
def P_X11_rotaOf (F : Nat) (w : Wd) (x1 : Int32) (x2 : Int32) (x3 : Int32) : Option (Int32 × Wd) := lt (sI w 88 34 1000000) (fun w4 => bnv (P_X11_rotasFrom F w4 0 x1 x2 x3) (fun w5 => (if (gI w5 88 34) = 1000000 then some ((-2), w5) else lt (sI w5 88 1 0) (fun w7 => L_X11_rotaOf_36 F x1 x2 x3 (fun w  => some (gI w 88 34, w)) F w7 0))))
set_option maxRecDepth 100000 in
set_option maxHeartbeats 4000000 in
theorem s_X11_rotaOf {X : Cx} {S : Sx} {r : Int32 × Wd} {F : Nat} {w : Wd} {x1 : Int32} {x2 : Int32} {x3 : Int32}  (hX : Ok X S cX11_rotaOf RX11 5 rm_X11_rotaOf) (hR : HRt X S cX11_rotaOf .int r) (hP : P_X11_rotaOf F w x1 x2 x3 = some r) : V X S w 0 [(0, rf S 88), (1, .int x1), (2, .int x2), (3, .int x3)] [] := by
  unfold P_X11_rotaOf at hP
  refine V_aload_n hX dX11_rotaOf_0 0 rfl ?_
  refine V_ldcw (v := 1000000) hX dX11_rotaOf_1 cn_X11_362 ?_
  refine V_putI hX fw_X11_352 tb_88 (fun _ _ _ => ⟨Nat.le_of_ble_eq_true rfl, rfl⟩) dX11_rotaOf_4 (fun w4 ew4 => ?_)
  replace hP := lt_r ew4 hP
  refine V_aload_n hX dX11_rotaOf_7 0 rfl ?_
  refine V_iconst (v := 0) hX dX11_rotaOf_8 (by decide) ?_
  refine V_iload_n hX dX11_rotaOf_9 1 rfl ?_
  refine V_iload_n hX dX11_rotaOf_10 2 rfl ?_
  refine V_iload_n hX dX11_rotaOf_11 3 rfl ?_
  obtain ⟨w5, hcw5, hP⟩ := bnv_e hP
  refine V_callVv (As := [.int 0, .int x1, .int x2, .int x3]) (rest := []) hX mk_X11_358 nk_X11_rotasFrom (fun l => c_X11_rotasFrom l S  hcw5) tb_88 rfl ⟨rfl, rfl, Nat.le_of_ble_eq_true rfl, Nat.le_of_ble_eq_true rfl⟩ rfl rfl (Nat.le_of_ble_eq_true rfl) dX11_rotaOf_12 ?_
  refine V_aload_n hX dX11_rotaOf_15 0 rfl ?_
  refine V_getI hX fk_X11_352 tb_88 (fun _ _ _ => rfl) dX11_rotaOf_16 ?_
  refine V_ldcw (v := 1000000) hX dX11_rotaOf_19 cn_X11_362 ?_
  refine V_icmp_ne (tgt := 28) hX dX11_rotaOf_22 (by decide) (fun hc6 => ?_) (fun hc6 => ?_)
  · replace hP := ite_f hc6 hP
    refine V_aload_n hX dX11_rotaOf_28 0 rfl ?_
    refine V_iconst (v := 0) hX dX11_rotaOf_29 (by decide) ?_
    refine V_putI hX fw_X11_110 tb_88 (fun _ _ _ => ⟨Nat.le_of_ble_eq_true rfl, rfl⟩) dX11_rotaOf_30 (fun w7 ew7 => ?_)
    replace hP := lt_r ew7 hP
    refine V_iconst (v := 0) hX dX11_rotaOf_33 (by decide) ?_
    refine V_istore (lv' := [(4, .int 0), (0, rf S 88), (1, .int x1), (2, .int x2), (3, .int x3)]) hX dX11_rotaOf_34 (by decide) rfl ?_
    refine V_sub (lv' := [(0, rf S 88), (1, .int x1), (4, .int 0), (2, .int x2), (3, .int x3)]) [1, 2, 0, 3, 4] rfl ?_
    have k13 : ∀ (w : Wd)  , (some (gI w 88 34, w)) = some r → V X S w 60 [(0, rf S 88)] [] := by
      intro w   hP
      refine V_aload_n hX dX11_rotaOf_60 0 rfl ?_
      refine V_getI hX fk_X11_352 tb_88 (fun _ _ _ => rfl) dX11_rotaOf_61 ?_
      exact hR _ _ _ _ (Option.some.inj hP) rfl dX11_rotaOf_64
    exact sL_X11_rotaOf_36 hX hR  k13 F _ _  hP
  · replace hP := ite_t hc6 hP
    refine V_bipush (v := (-2)) hX dX11_rotaOf_25 (by decide) ?_
    exact hR _ _ _ _ (Option.some.inj hP) rfl dX11_rotaOf_27
theorem c_X11_rotaOf (l : Launch) (S : Sx) {r : Int32 × Wd} {F : Nat} {w : Wd} {x1 : Int32} {x2 : Int32} {x3 : Int32}  (h : P_X11_rotaOf F w x1 x2 x3 = some r) : Met l yX11_rotaOf (wsg yX11_rotaOf cX11_rotaOf 5 (some .int)) rm_X11_rotaOf (PC S w [rf S 88, .int x1, .int x2, .int x3]) (QCi S r) 0 0 (Aw S) :=
  met_i (by decide) rfl (Nat.le_of_ble_eq_true rfl) ⟨rfl, rfl⟩ (fun X hX hR => s_X11_rotaOf  hX hR h)

-- MustNotStopModel.canRota(II)Z
abbrev rm_X11_canRota : Room := { frames := 2, cells := 0, slots := 0, locals := 89 }
theorem nk_X11_canRota : MNk yX11_canRota RX11 2 := ⟨rfl, by decide, by decide, by decide +kernel⟩
def P_X11_canRota (F : Nat) (w : Wd) (x1 : Int32) (x2 : Int32) : Option (Int32 × Wd) := bnd (P_X11_in F w (Int32.toInt64 x1) 1 4) (fun x4 w3 => (if x4 = 0 then some (0, w3) else bnd (P_X11_in F w3 (Int32.toInt64 x2) 1 20) (fun x7 w6 => lt (if x7 = 0 then 0 else 1 : Int32) (fun x9 => gd (isZO x9) (some (x9, w6))))))
set_option maxRecDepth 100000 in
set_option maxHeartbeats 4000000 in
theorem s_X11_canRota {X : Cx} {S : Sx} {r : Int32 × Wd} {F : Nat} {w : Wd} {x1 : Int32} {x2 : Int32}  (hX : Ok X S cX11_canRota RX11 2 rm_X11_canRota) (hR : HRt X S cX11_canRota .boolean r) (hP : P_X11_canRota F w x1 x2 = some r) : V X S w 0 [(0, .int x1), (1, .int x2)] [] := by
  unfold P_X11_canRota at hP
  refine V_iload_n hX dX11_canRota_0 0 rfl ?_
  refine V_i2l hX dX11_canRota_1 ?_
  refine V_lconst (v := 1) hX dX11_canRota_2 rfl ?_
  refine V_ldc2 (v := 4) hX dX11_canRota_3 cn_X11_263 ?_
  obtain ⟨x4, w3, hcw3, hP⟩ := bnd_e hP
  refine V_callSi (As := [.long (Int32.toInt64 x1), .long 1, .long 4]) (rest := []) hX mk_X11_116 nk_X11_in (fun l => c_X11_in l S  hcw3) ⟨rfl, rfl, Nat.le_of_ble_eq_true rfl, Nat.le_of_ble_eq_true rfl⟩ rfl rfl (Nat.le_of_ble_eq_true rfl) dX11_canRota_6 ?_
  refine V_if_eq (tgt := 28) hX dX11_canRota_9 (by decide) (fun hc5 => ?_) (fun hc5 => ?_)
  · replace hP := ite_t hc5 hP
    refine V_iconst (v := 0) hX dX11_canRota_28 (by decide) ?_
    exact hR _ _ _ _ (Option.some.inj hP) rfl dX11_canRota_29
  · replace hP := ite_f hc5 hP
    refine V_iload_n hX dX11_canRota_12 1 rfl ?_
    refine V_i2l hX dX11_canRota_13 ?_
    refine V_lconst (v := 1) hX dX11_canRota_14 rfl ?_
    refine V_ldc2 (v := 20) hX dX11_canRota_15 cn_X11_363 ?_
    obtain ⟨x7, w6, hcw6, hP⟩ := bnd_e hP
    refine V_callSi (As := [.long (Int32.toInt64 x2), .long 1, .long 20]) (rest := []) hX mk_X11_116 nk_X11_in (fun l => c_X11_in l S  hcw6) ⟨rfl, rfl, Nat.le_of_ble_eq_true rfl, Nat.le_of_ble_eq_true rfl⟩ rfl rfl (Nat.le_of_ble_eq_true rfl) dX11_canRota_18 ?_
    have k11 : V X S w6 29 [(0, .int x1), (1, .int x2)] [.int (if x7 = 0 then 0 else 1)] := by
      refine V_topi (fun x9 ex9 => ?_)
      replace hP := lt_r ex9 hP
      obtain ⟨hz10, hP⟩ := gd_e hP
      exact hR _ _ _ _ (Option.some.inj hP) (nar_z hz10) dX11_canRota_29
    refine V_if_eq (tgt := 28) hX dX11_canRota_21 (by decide) (fun hc8 => ?_) (fun hc8 => ?_)
    · refine V_iconst (v := 0) hX dX11_canRota_28 (by decide) ?_
      refine V_selT (c := x7 = 0) (b := 1) hc8 ?_
      exact k11
    · refine V_iconst (v := 1) hX dX11_canRota_24 (by decide) ?_
      refine V_goto (tgt := 29) hX dX11_canRota_25 (by decide) ?_
      refine V_selF (c := x7 = 0) (a := 0) hc8 ?_
      exact k11
theorem c_X11_canRota (l : Launch) (S : Sx) {r : Int32 × Wd} {F : Nat} {w : Wd} {x1 : Int32} {x2 : Int32}  (h : P_X11_canRota F w x1 x2 = some r) : Met l yX11_canRota (wsg yX11_canRota cX11_canRota 2 (some .boolean)) rm_X11_canRota (PC S w [.int x1, .int x2]) (QCi S r) 0 0 (Aw S) :=
  met_i (by decide) rfl (Nat.le_of_ble_eq_true rfl) ⟨rfl, rfl⟩ (fun X hX hR => s_X11_canRota  hX hR h)

-- MustNotStopModel.rota(II)I
abbrev rm_X11_rota : Room := { frames := 152, cells := 0, slots := 0, locals := 13550 }
theorem nk_X11_rota : MNk yX11_rota RX11 2 := ⟨rfl, by decide, by decide, by decide +kernel⟩
def P_X11_rota (F : Nat) (w : Wd) (x1 : Int32) (x2 : Int32) : Option (Int32 × Wd) := lt (sI w 88 0 0) (fun w3 => bnd (P_X11_canRota F w3 x1 x2) (fun x5 w4 => (if x5 = 0 then some ((-1), w4) else bnd (P_X11_rotaOf F w4 x1 x2 0) (fun x8 w7 => some (x8, w7)))))
set_option maxRecDepth 100000 in
set_option maxHeartbeats 4000000 in
theorem s_X11_rota {X : Cx} {S : Sx} {r : Int32 × Wd} {F : Nat} {w : Wd} {x1 : Int32} {x2 : Int32}  (hX : Ok X S cX11_rota RX11 3 rm_X11_rota) (hR : HRt X S cX11_rota .int r) (hP : P_X11_rota F w x1 x2 = some r) : V X S w 0 [(0, rf S 88), (1, .int x1), (2, .int x2)] [] := by
  unfold P_X11_rota at hP
  refine V_aload_n hX dX11_rota_0 0 rfl ?_
  refine V_iconst (v := 0) hX dX11_rota_1 (by decide) ?_
  refine V_putI hX fw_X11_102 tb_88 (fun _ _ _ => ⟨Nat.le_of_ble_eq_true rfl, rfl⟩) dX11_rota_2 (fun w3 ew3 => ?_)
  replace hP := lt_r ew3 hP
  refine V_iload_n hX dX11_rota_5 1 rfl ?_
  refine V_iload_n hX dX11_rota_6 2 rfl ?_
  obtain ⟨x5, w4, hcw4, hP⟩ := bnd_e hP
  refine V_callSi (As := [.int x1, .int x2]) (rest := []) hX mk_X11_365 nk_X11_canRota (fun l => c_X11_canRota l S  hcw4) ⟨rfl, rfl, Nat.le_of_ble_eq_true rfl, Nat.le_of_ble_eq_true rfl⟩ rfl rfl (Nat.le_of_ble_eq_true rfl) dX11_rota_7 ?_
  refine V_if_eq (tgt := 23) hX dX11_rota_10 (by decide) (fun hc6 => ?_) (fun hc6 => ?_)
  · replace hP := ite_t hc6 hP
    refine V_iconst (v := (-1)) hX dX11_rota_23 (by decide) ?_
    exact hR _ _ _ _ (Option.some.inj hP) rfl dX11_rota_24
  · replace hP := ite_f hc6 hP
    refine V_aload_n hX dX11_rota_13 0 rfl ?_
    refine V_iload_n hX dX11_rota_14 1 rfl ?_
    refine V_iload_n hX dX11_rota_15 2 rfl ?_
    refine V_iconst (v := 0) hX dX11_rota_16 (by decide) ?_
    obtain ⟨x8, w7, hcw7, hP⟩ := bnd_e hP
    refine V_callVi (As := [.int x1, .int x2, .int 0]) (rest := []) hX mk_X11_368 nk_X11_rotaOf (fun l => c_X11_rotaOf l S  hcw7) tb_88 rfl ⟨rfl, rfl, Nat.le_of_ble_eq_true rfl, Nat.le_of_ble_eq_true rfl⟩ rfl rfl (Nat.le_of_ble_eq_true rfl) dX11_rota_17 ?_
    refine V_goto (tgt := 24) hX dX11_rota_20 (by decide) ?_
    exact hR _ _ _ _ (Option.some.inj hP) rfl dX11_rota_24
theorem c_X11_rota (l : Launch) (S : Sx) {r : Int32 × Wd} {F : Nat} {w : Wd} {x1 : Int32} {x2 : Int32}  (h : P_X11_rota F w x1 x2 = some r) : Met l yX11_rota (wsg yX11_rota cX11_rota 3 (some .int)) rm_X11_rota (PC S w [rf S 88, .int x1, .int x2]) (QCi S r) 0 0 (Aw S) :=
  met_i (by decide) rfl (Nat.le_of_ble_eq_true rfl) ⟨rfl, rfl⟩ (fun X hX hR => s_X11_rota  hX hR h)

-- MustNotStopModel.cheapest(II)I
abbrev rm_X11_cheapest : Room := { frames := 152, cells := 0, slots := 0, locals := 13550 }
theorem nk_X11_cheapest : MNk yX11_cheapest RX11 2 := ⟨rfl, by decide, by decide, by decide +kernel⟩
def P_X11_cheapest (F : Nat) (w : Wd) (x1 : Int32) (x2 : Int32) : Option (Int32 × Wd) := lt (sI w 88 0 0) (fun w3 => bnd (P_X11_canRota F w3 x1 x2) (fun x5 w4 => (if x5 = 0 then some ((-1), w4) else bnd (P_X11_rotaOf F w4 x1 x2 1) (fun x8 w7 => some (x8, w7)))))
set_option maxRecDepth 100000 in
set_option maxHeartbeats 4000000 in
theorem s_X11_cheapest {X : Cx} {S : Sx} {r : Int32 × Wd} {F : Nat} {w : Wd} {x1 : Int32} {x2 : Int32}  (hX : Ok X S cX11_cheapest RX11 3 rm_X11_cheapest) (hR : HRt X S cX11_cheapest .int r) (hP : P_X11_cheapest F w x1 x2 = some r) : V X S w 0 [(0, rf S 88), (1, .int x1), (2, .int x2)] [] := by
  unfold P_X11_cheapest at hP
  refine V_aload_n hX dX11_cheapest_0 0 rfl ?_
  refine V_iconst (v := 0) hX dX11_cheapest_1 (by decide) ?_
  refine V_putI hX fw_X11_102 tb_88 (fun _ _ _ => ⟨Nat.le_of_ble_eq_true rfl, rfl⟩) dX11_cheapest_2 (fun w3 ew3 => ?_)
  replace hP := lt_r ew3 hP
  refine V_iload_n hX dX11_cheapest_5 1 rfl ?_
  refine V_iload_n hX dX11_cheapest_6 2 rfl ?_
  obtain ⟨x5, w4, hcw4, hP⟩ := bnd_e hP
  refine V_callSi (As := [.int x1, .int x2]) (rest := []) hX mk_X11_365 nk_X11_canRota (fun l => c_X11_canRota l S  hcw4) ⟨rfl, rfl, Nat.le_of_ble_eq_true rfl, Nat.le_of_ble_eq_true rfl⟩ rfl rfl (Nat.le_of_ble_eq_true rfl) dX11_cheapest_7 ?_
  refine V_if_eq (tgt := 23) hX dX11_cheapest_10 (by decide) (fun hc6 => ?_) (fun hc6 => ?_)
  · replace hP := ite_t hc6 hP
    refine V_iconst (v := (-1)) hX dX11_cheapest_23 (by decide) ?_
    exact hR _ _ _ _ (Option.some.inj hP) rfl dX11_cheapest_24
  · replace hP := ite_f hc6 hP
    refine V_aload_n hX dX11_cheapest_13 0 rfl ?_
    refine V_iload_n hX dX11_cheapest_14 1 rfl ?_
    refine V_iload_n hX dX11_cheapest_15 2 rfl ?_
    refine V_iconst (v := 1) hX dX11_cheapest_16 (by decide) ?_
    obtain ⟨x8, w7, hcw7, hP⟩ := bnd_e hP
    refine V_callVi (As := [.int x1, .int x2, .int 1]) (rest := []) hX mk_X11_368 nk_X11_rotaOf (fun l => c_X11_rotaOf l S  hcw7) tb_88 rfl ⟨rfl, rfl, Nat.le_of_ble_eq_true rfl, Nat.le_of_ble_eq_true rfl⟩ rfl rfl (Nat.le_of_ble_eq_true rfl) dX11_cheapest_17 ?_
    refine V_goto (tgt := 24) hX dX11_cheapest_20 (by decide) ?_
    exact hR _ _ _ _ (Option.some.inj hP) rfl dX11_cheapest_24
theorem c_X11_cheapest (l : Launch) (S : Sx) {r : Int32 × Wd} {F : Nat} {w : Wd} {x1 : Int32} {x2 : Int32}  (h : P_X11_cheapest F w x1 x2 = some r) : Met l yX11_cheapest (wsg yX11_cheapest cX11_cheapest 3 (some .int)) rm_X11_cheapest (PC S w [rf S 88, .int x1, .int x2]) (QCi S r) 0 0 (Aw S) :=
  met_i (by decide) rfl (Nat.le_of_ble_eq_true rfl) ⟨rfl, rfl⟩ (fun X hX hR => s_X11_cheapest  hX hR h)

-- MustNotStopModel.anyFrom(III)Z
theorem nk_X11_anyFrom : MNk yX11_anyFrom RX11 3 := ⟨rfl, by decide, by decide, by decide +kernel⟩
def L_X11_anyFrom_15 (F : Nat) (x1 : Int32) (x2 : Int32) (x3 : Int32) (g_X11_anyFrom : Wd → Int32 → Int32 → Int32 → Option (Int32 × Wd)) (k52 : Wd → Option (Int32 × Wd)) : Nat → Wd → Int32 → Option (Int32 × Wd)
  | 0, _, _ => none
  | n + 1, w, x5 => (if (gI w 88 3) ≤ x5 then k52 w  else gd (inB x1 4) (lt (sI w 107 x1.toNatClampNeg x5) (fun w8 => bnd (g_X11_anyFrom w8 (x1 + 1) x2 x3) (fun x10 w9 => (if x10 = 0 then lt (x5 + 1 : Int32) (fun x12 => L_X11_anyFrom_15 F x1 x2 x3 g_X11_anyFrom k52 n w9 x12) else some (1, w9))))))
set_option maxRecDepth 100000 in
set_option maxHeartbeats 4000000 in
theorem sL_X11_anyFrom_15 {X : Cx} {S : Sx} {rm rmc : Room} {r : Int32 × Wd} {F : Nat} {x1 : Int32} {x2 : Int32} {x3 : Int32} {g_X11_anyFrom : Wd → Int32 → Int32 → Int32 → Option (Int32 × Wd)} {k52 : Wd → Option (Int32 × Wd)} (hX : Ok X S cX11_anyFrom RX11 5 rm) (hR : HRt X S cX11_anyFrom .boolean r ∧ RMr rm rmc)  (hg_X11_anyFrom : ∀ (l : Launch) (w : Wd) (x1 : Int32) (x2 : Int32) (x3 : Int32) (r : Int32 × Wd) , g_X11_anyFrom w x1 x2 x3 = some r → Met l yX11_anyFrom (wsg yX11_anyFrom cX11_anyFrom 5 (some .boolean)) rmc (PC S w [rf S 88, .int x1, .int x2, .int x3]) (QCi S r) 0 0 (Aw S)) (hk52 : ∀ (w : Wd), k52 w = some r → V X S w 52 [] []) : ∀ (n : Nat) (w : Wd) (x5 : Int32) , L_X11_anyFrom_15 F x1 x2 x3 g_X11_anyFrom k52 n w x5 = some r → V X S w 15 [(0, rf S 88), (1, .int x1), (2, .int x2), (3, .int x3), (4, .int x5)] [] := by
  intro n
  induction n with
  | zero =>
    intro w x5  hP
    exact nn hP
  | succ n ih =>
    intro w x5  hP
    rw [L_X11_anyFrom_15] at hP
    refine V_iload hX dX11_anyFrom_15 4 rfl ?_
    refine V_aload_n hX dX11_anyFrom_17 0 rfl ?_
    refine V_getI hX fk_X11_113 tb_88 (fun _ _ _ => rfl) dX11_anyFrom_18 ?_
    refine V_icmp_ge (tgt := 52) hX dX11_anyFrom_21 (by decide) (fun hc6 => ?_) (fun hc6 => ?_)
    · replace hP := ite_t hc6 hP
      refine V_sub (lv' := []) [] rfl ?_
      exact hk52 _   hP
    · replace hP := ite_f hc6 hP
      refine V_aload_n hX dX11_anyFrom_24 0 rfl ?_
      refine V_getF (j := 107) hX fk_X11_65 tb_88 (fun _ _ _ => rfl) dX11_anyFrom_25 ?_
      refine V_iload_n hX dX11_anyFrom_28 1 rfl ?_
      refine V_iload hX dX11_anyFrom_29 4 rfl ?_
      obtain ⟨hi7, hP⟩ := gd_e hP
      refine V_iast hX tb_107 hi7 dX11_anyFrom_31 (fun w8 ew8 => ?_)
      replace hP := lt_r ew8 hP
      refine V_aload_n hX dX11_anyFrom_32 0 rfl ?_
      refine V_iload_n hX dX11_anyFrom_33 1 rfl ?_
      refine V_iconst (v := 1) hX dX11_anyFrom_34 (by decide) ?_
      refine V_iadd hX dX11_anyFrom_35 ?_
      refine V_iload_n hX dX11_anyFrom_36 2 rfl ?_
      refine V_iload_n hX dX11_anyFrom_37 3 rfl ?_
      obtain ⟨x10, w9, hcw9, hP⟩ := bnd_e hP
      refine V_callVi (As := [.int (x1 + 1), .int x2, .int x3]) (rest := []) hX mk_X11_371 nk_X11_anyFrom (fun l => hg_X11_anyFrom l _ _ _ _ _  hcw9) tb_88 rfl (rm_rec hR.2 (Nat.le_of_ble_eq_true rfl)) rfl rfl (Nat.le_of_ble_eq_true rfl) dX11_anyFrom_38 ?_
      refine V_if_eq (tgt := 46) hX dX11_anyFrom_41 (by decide) (fun hc11 => ?_) (fun hc11 => ?_)
      · replace hP := ite_t hc11 hP
        obtain ⟨x12, ex12⟩ : ∃ y : Int32, y = x5 + 1 := ⟨_, rfl⟩
        replace hP := lt_r ex12 hP
        refine V_iinc (v := x12) (lv' := [(4, .int x12), (0, rf S 88), (1, .int x1), (2, .int x2), (3, .int x3)]) hX dX11_anyFrom_46 (j := 4) rfl (by decide) (by rw [ex12]; rfl) rfl ?_
        refine V_goto (tgt := 15) hX dX11_anyFrom_49 (by decide) ?_
        refine V_sub (lv' := [(0, rf S 88), (1, .int x1), (2, .int x2), (3, .int x3), (4, .int x12)]) [1, 2, 3, 4, 0] rfl ?_
        exact ih _ _  hP
      · replace hP := ite_f hc11 hP
        refine V_iconst (v := 1) hX dX11_anyFrom_44 (by decide) ?_
        exact hR.1 _ _ _ _ (Option.some.inj hP) rfl dX11_anyFrom_45
def B_X11_anyFrom (F : Nat) (g_X11_anyFrom : Wd → Int32 → Int32 → Int32 → Option (Int32 × Wd)) (w : Wd) (x1 : Int32) (x2 : Int32) (x3 : Int32) : Option (Int32 × Wd) := (if x1 = x2 then bnd (P_X11_isFine F w x2 x3) (fun x15 w14 => gd (isZO x15) (some (x15, w14))) else L_X11_anyFrom_15 F x1 x2 x3 g_X11_anyFrom (fun w  => some (0, w)) F w 0)
set_option maxRecDepth 100000 in
set_option maxHeartbeats 4000000 in
theorem s_X11_anyFrom {X : Cx} {S : Sx} {rm rmc : Room} {r : Int32 × Wd} {F : Nat} {g_X11_anyFrom : Wd → Int32 → Int32 → Int32 → Option (Int32 × Wd)} {w : Wd} {x1 : Int32} {x2 : Int32} {x3 : Int32}  (hX : Ok X S cX11_anyFrom RX11 5 rm) (hR : HRt X S cX11_anyFrom .boolean r ∧ RMr rm rmc) (hg_X11_anyFrom : ∀ (l : Launch) (w : Wd) (x1 : Int32) (x2 : Int32) (x3 : Int32) (r : Int32 × Wd) , g_X11_anyFrom w x1 x2 x3 = some r → Met l yX11_anyFrom (wsg yX11_anyFrom cX11_anyFrom 5 (some .boolean)) rmc (PC S w [rf S 88, .int x1, .int x2, .int x3]) (QCi S r) 0 0 (Aw S)) (hP : B_X11_anyFrom F g_X11_anyFrom w x1 x2 x3 = some r) : V X S w 0 [(0, rf S 88), (1, .int x1), (2, .int x2), (3, .int x3)] [] := by
  unfold B_X11_anyFrom at hP
  refine V_iload_n hX dX11_anyFrom_0 1 rfl ?_
  refine V_iload_n hX dX11_anyFrom_1 2 rfl ?_
  refine V_icmp_ne (tgt := 12) hX dX11_anyFrom_2 (by decide) (fun hc4 => ?_) (fun hc4 => ?_)
  · replace hP := ite_f hc4 hP
    refine V_iconst (v := 0) hX dX11_anyFrom_12 (by decide) ?_
    refine V_istore (lv' := [(4, .int 0), (0, rf S 88), (1, .int x1), (2, .int x2), (3, .int x3)]) hX dX11_anyFrom_13 (by decide) rfl ?_
    refine V_sub (lv' := [(0, rf S 88), (1, .int x1), (2, .int x2), (3, .int x3), (4, .int 0)]) [1, 2, 3, 4, 0] rfl ?_
    have k13 : ∀ (w : Wd)  , (some (0, w)) = some r → V X S w 52 [] [] := by
      intro w   hP
      refine V_iconst (v := 0) hX dX11_anyFrom_52 (by decide) ?_
      exact hR.1 _ _ _ _ (Option.some.inj hP) rfl dX11_anyFrom_53
    exact sL_X11_anyFrom_15 hX hR  hg_X11_anyFrom k13 F _ _  hP
  · replace hP := ite_t hc4 hP
    refine V_aload_n hX dX11_anyFrom_5 0 rfl ?_
    refine V_iload_n hX dX11_anyFrom_6 2 rfl ?_
    refine V_iload_n hX dX11_anyFrom_7 3 rfl ?_
    obtain ⟨x15, w14, hcw14, hP⟩ := bnd_e hP
    refine V_callVi (As := [.int x2, .int x3]) (rest := []) hX mk_X11_355 nk_X11_isFine (fun l => c_X11_isFine l S  hcw14) tb_88 rfl (rm_call hR.2 rfl rfl (Nat.le_of_ble_eq_true rfl) (Nat.le_of_ble_eq_true rfl)) rfl rfl (Nat.le_of_ble_eq_true rfl) dX11_anyFrom_8 ?_
    obtain ⟨hz16, hP⟩ := gd_e hP
    exact hR.1 _ _ _ _ (Option.some.inj hP) (nar_z hz16) dX11_anyFrom_11
def D_any (F : Nat) : Nat → (Wd → Int32 → Int32 → Int32 → Option (Int32 × Wd))
  | 0 => (fun _ _ _ _ => none)
  | n + 1 => (fun w x1 x2 x3 => B_X11_anyFrom F (D_any F n) w x1 x2 x3)
set_option maxRecDepth 100000 in
set_option maxHeartbeats 4000000 in
theorem cD_any (S : Sx) (F : Nat) : ∀ n : Nat, (∀ (l : Launch) (w : Wd) (x1 : Int32) (x2 : Int32) (x3 : Int32) (r : Int32 × Wd) , (D_any F n) w x1 x2 x3 = some r → Met l yX11_anyFrom (wsg yX11_anyFrom cX11_anyFrom 5 (some .boolean)) (rmD n) (PC S w [rf S 88, .int x1, .int x2, .int x3]) (QCi S r) 0 0 (Aw S)) := by
  intro n
  induction n with
  | zero => exact fun _ _ _ _ _ _ h => nn h
  | succ n ih =>
    have ih0 := ih
    intro l w x1 x2 x3 r  h
    exact met_i (by decide) rfl (Nat.le_of_ble_eq_true rfl) ⟨rfl, rfl⟩ (fun X hX hR => s_X11_anyFrom (F := F)  hX ⟨hR, rmD_r n⟩ ih0 h)
abbrev rm_X11_anyFrom : Room := { frames := 150, cells := 0, slots := 0, locals := 13500 }
def P_X11_anyFrom (F : Nat) (w : Wd) (x1 : Int32) (x2 : Int32) (x3 : Int32) : Option (Int32 × Wd) := (D_any F 100) w x1 x2 x3
theorem c_X11_anyFrom (l : Launch) (S : Sx) {r : Int32 × Wd} {F : Nat} {w : Wd} {x1 : Int32} {x2 : Int32} {x3 : Int32}  (h : P_X11_anyFrom F w x1 x2 x3 = some r) : Met l yX11_anyFrom (wsg yX11_anyFrom cX11_anyFrom 5 (some .boolean)) rm_X11_anyFrom (PC S w [rf S 88, .int x1, .int x2, .int x3]) (QCi S r) 0 0 (Aw S) := (cD_any S F 100) l w x1 x2 x3 r  h

-- MustNotStopModel.longest(I)I
abbrev rm_X11_longest : Room := { frames := 151, cells := 0, slots := 0, locals := 13524 }
theorem nk_X11_longest : MNk yX11_longest RX11 1 := ⟨rfl, by decide, by decide, by decide +kernel⟩
def L_X11_longest_44 (F : Nat) (x1 : Int32) (x13 : Int32) (k66 : Wd → Option (Int32 × Wd)) : Nat → Wd → Int32 → Option (Int32 × Wd)
  | 0, _, _ => none
  | n + 1, w, x14 => (if x1 ≤ x14 then k66 w  else gd (inB x14 4) (bnv (P_X11_enters F w (Int32.toInt64 (gI w 107 x14.toNatClampNeg))) (fun w17 => lt (x14 + 1 : Int32) (fun x18 => L_X11_longest_44 F x1 x13 k66 n w17 x18))))
set_option maxRecDepth 100000 in
set_option maxHeartbeats 4000000 in
theorem sL_X11_longest_44 {X : Cx} {S : Sx} {r : Int32 × Wd} {F : Nat} {x1 : Int32} {x13 : Int32} {k66 : Wd → Option (Int32 × Wd)} (hX : Ok X S cX11_longest RX11 4 rm_X11_longest) (hR : HRt X S cX11_longest .int r)  (hk66 : ∀ (w : Wd), k66 w = some r → V X S w 66 [(2, .int x13)] []) : ∀ (n : Nat) (w : Wd) (x14 : Int32) , L_X11_longest_44 F x1 x13 k66 n w x14 = some r → V X S w 44 [(0, rf S 88), (1, .int x1), (2, .int x13), (3, .int x14)] [] := by
  intro n
  induction n with
  | zero =>
    intro w x14  hP
    exact nn hP
  | succ n ih =>
    intro w x14  hP
    rw [L_X11_longest_44] at hP
    refine V_iload_n hX dX11_longest_44 3 rfl ?_
    refine V_iload_n hX dX11_longest_45 1 rfl ?_
    refine V_icmp_ge (tgt := 66) hX dX11_longest_46 (by decide) (fun hc15 => ?_) (fun hc15 => ?_)
    · replace hP := ite_t hc15 hP
      refine V_sub (lv' := [(2, .int x13)]) [2] rfl ?_
      exact hk66 _   hP
    · replace hP := ite_f hc15 hP
      refine V_aload_n hX dX11_longest_49 0 rfl ?_
      refine V_aload_n hX dX11_longest_50 0 rfl ?_
      refine V_getF (j := 107) hX fk_X11_65 tb_88 (fun _ _ _ => rfl) dX11_longest_51 ?_
      refine V_iload_n hX dX11_longest_54 3 rfl ?_
      obtain ⟨hi16, hP⟩ := gd_e hP
      refine V_iald hX tb_107 hi16 dX11_longest_55 ?_
      refine V_i2l hX dX11_longest_56 ?_
      obtain ⟨w17, hcw17, hP⟩ := bnv_e hP
      refine V_callVv (As := [.long (Int32.toInt64 (gI w 107 x14.toNatClampNeg))]) (rest := []) hX mk_X11_316 nk_X11_enters (fun l => c_X11_enters l S  hcw17) tb_88 rfl ⟨rfl, rfl, Nat.le_of_ble_eq_true rfl, Nat.le_of_ble_eq_true rfl⟩ rfl rfl (Nat.le_of_ble_eq_true rfl) dX11_longest_57 ?_
      obtain ⟨x18, ex18⟩ : ∃ y : Int32, y = x14 + 1 := ⟨_, rfl⟩
      replace hP := lt_r ex18 hP
      refine V_iinc (v := x18) (lv' := [(3, .int x18), (0, rf S 88), (1, .int x1), (2, .int x13)]) hX dX11_longest_60 (j := 3) rfl (by decide) (by rw [ex18]; rfl) rfl ?_
      refine V_goto (tgt := 44) hX dX11_longest_63 (by decide) ?_
      refine V_sub (lv' := [(0, rf S 88), (1, .int x1), (2, .int x13), (3, .int x18)]) [1, 2, 3, 0] rfl ?_
      exact ih _ _  hP
def L_X11_longest_22 (F : Nat) (x1 : Int32) (k74 : Wd → Option (Int32 × Wd)) : Nat → Wd → Int32 → Option (Int32 × Wd)
  | 0, _, _ => none
  | n + 1, w, x6 => (if x6 < 1 then k74 w  else bnd (P_X11_anyFrom F w 0 x1 x6) (fun x9 w8 => (if x9 = 0 then lt (x6 + (-1) : Int32) (fun x11 => L_X11_longest_22 F x1 k74 n w8 x11) else lt (sI w8 88 1 0) (fun w12 => L_X11_longest_44 F x1 x6 (fun w  => some (x6, w)) F w12 0))))
set_option maxRecDepth 100000 in
set_option maxHeartbeats 4000000 in
theorem sL_X11_longest_22 {X : Cx} {S : Sx} {r : Int32 × Wd} {F : Nat} {x1 : Int32} {k74 : Wd → Option (Int32 × Wd)} (hX : Ok X S cX11_longest RX11 4 rm_X11_longest) (hR : HRt X S cX11_longest .int r)  (hk74 : ∀ (w : Wd), k74 w = some r → V X S w 74 [] []) : ∀ (n : Nat) (w : Wd) (x6 : Int32) , L_X11_longest_22 F x1 k74 n w x6 = some r → V X S w 22 [(0, rf S 88), (1, .int x1), (2, .int x6)] [] := by
  intro n
  induction n with
  | zero =>
    intro w x6  hP
    exact nn hP
  | succ n ih =>
    intro w x6  hP
    rw [L_X11_longest_22] at hP
    refine V_iload_n hX dX11_longest_22 2 rfl ?_
    refine V_iconst (v := 1) hX dX11_longest_23 (by decide) ?_
    refine V_icmp_lt (tgt := 74) hX dX11_longest_24 (by decide) (fun hc7 => ?_) (fun hc7 => ?_)
    · replace hP := ite_t hc7 hP
      refine V_sub (lv' := []) [] rfl ?_
      exact hk74 _   hP
    · replace hP := ite_f hc7 hP
      refine V_aload_n hX dX11_longest_27 0 rfl ?_
      refine V_iconst (v := 0) hX dX11_longest_28 (by decide) ?_
      refine V_iload_n hX dX11_longest_29 1 rfl ?_
      refine V_iload_n hX dX11_longest_30 2 rfl ?_
      obtain ⟨x9, w8, hcw8, hP⟩ := bnd_e hP
      refine V_callVi (As := [.int 0, .int x1, .int x6]) (rest := []) hX mk_X11_371 nk_X11_anyFrom (fun l => c_X11_anyFrom l S  hcw8) tb_88 rfl ⟨rfl, rfl, Nat.le_of_ble_eq_true rfl, Nat.le_of_ble_eq_true rfl⟩ rfl rfl (Nat.le_of_ble_eq_true rfl) dX11_longest_31 ?_
      refine V_if_eq (tgt := 68) hX dX11_longest_34 (by decide) (fun hc10 => ?_) (fun hc10 => ?_)
      · replace hP := ite_t hc10 hP
        obtain ⟨x11, ex11⟩ : ∃ y : Int32, y = x6 + (-1) := ⟨_, rfl⟩
        replace hP := lt_r ex11 hP
        refine V_iinc (v := x11) (lv' := [(2, .int x11), (0, rf S 88), (1, .int x1)]) hX dX11_longest_68 (j := 2) rfl (by decide) (by rw [ex11]; rfl) rfl ?_
        refine V_goto (tgt := 22) hX dX11_longest_71 (by decide) ?_
        refine V_sub (lv' := [(0, rf S 88), (1, .int x1), (2, .int x11)]) [1, 2, 0] rfl ?_
        exact ih _ _  hP
      · replace hP := ite_f hc10 hP
        refine V_aload_n hX dX11_longest_37 0 rfl ?_
        refine V_iconst (v := 0) hX dX11_longest_38 (by decide) ?_
        refine V_putI hX fw_X11_110 tb_88 (fun _ _ _ => ⟨Nat.le_of_ble_eq_true rfl, rfl⟩) dX11_longest_39 (fun w12 ew12 => ?_)
        replace hP := lt_r ew12 hP
        refine V_iconst (v := 0) hX dX11_longest_42 (by decide) ?_
        refine V_istore_n (lv' := [(3, .int 0), (0, rf S 88), (1, .int x1), (2, .int x6)]) hX dX11_longest_43 (by decide) rfl ?_
        refine V_sub (lv' := [(0, rf S 88), (1, .int x1), (2, .int x6), (3, .int 0)]) [1, 2, 3, 0] rfl ?_
        have k19 : ∀ (w : Wd)  , (some (x6, w)) = some r → V X S w 66 [(2, .int x6)] [] := by
          intro w   hP
          refine V_iload_n hX dX11_longest_66 0 rfl ?_
          exact hR _ _ _ _ (Option.some.inj hP) rfl dX11_longest_67
        exact sL_X11_longest_44 hX hR  k19 F _ _  hP
def P_X11_longest (F : Nat) (w : Wd) (x1 : Int32) : Option (Int32 × Wd) := lt (sI w 88 0 0) (fun w2 => bnd (P_X11_in F w2 (Int32.toInt64 x1) 1 3) (fun x4 w3 => (if x4 = 0 then some ((-1), w3) else L_X11_longest_22 F x1 (fun w  => some ((-2), w)) F w3 20)))
set_option maxRecDepth 100000 in
set_option maxHeartbeats 4000000 in
theorem s_X11_longest {X : Cx} {S : Sx} {r : Int32 × Wd} {F : Nat} {w : Wd} {x1 : Int32}  (hX : Ok X S cX11_longest RX11 4 rm_X11_longest) (hR : HRt X S cX11_longest .int r) (hP : P_X11_longest F w x1 = some r) : V X S w 0 [(0, rf S 88), (1, .int x1)] [] := by
  unfold P_X11_longest at hP
  refine V_aload_n hX dX11_longest_0 0 rfl ?_
  refine V_iconst (v := 0) hX dX11_longest_1 (by decide) ?_
  refine V_putI hX fw_X11_102 tb_88 (fun _ _ _ => ⟨Nat.le_of_ble_eq_true rfl, rfl⟩) dX11_longest_2 (fun w2 ew2 => ?_)
  replace hP := lt_r ew2 hP
  refine V_iload_n hX dX11_longest_5 1 rfl ?_
  refine V_i2l hX dX11_longest_6 ?_
  refine V_lconst (v := 1) hX dX11_longest_7 rfl ?_
  refine V_ldc2 (v := 3) hX dX11_longest_8 cn_X11_278 ?_
  obtain ⟨x4, w3, hcw3, hP⟩ := bnd_e hP
  refine V_callSi (As := [.long (Int32.toInt64 x1), .long 1, .long 3]) (rest := []) hX mk_X11_116 nk_X11_in (fun l => c_X11_in l S  hcw3) ⟨rfl, rfl, Nat.le_of_ble_eq_true rfl, Nat.le_of_ble_eq_true rfl⟩ rfl rfl (Nat.le_of_ble_eq_true rfl) dX11_longest_11 ?_
  refine V_if_ne (tgt := 19) hX dX11_longest_14 (by decide) (fun hc5 => ?_) (fun hc5 => ?_)
  · replace hP := ite_f hc5 hP
    refine V_bipush (v := 20) hX dX11_longest_19 (by decide) ?_
    refine V_istore_n (lv' := [(2, .int 20), (0, rf S 88), (1, .int x1)]) hX dX11_longest_21 (by decide) rfl ?_
    refine V_sub (lv' := [(0, rf S 88), (1, .int x1), (2, .int 20)]) [1, 2, 0] rfl ?_
    have k20 : ∀ (w : Wd)  , (some ((-2), w)) = some r → V X S w 74 [] [] := by
      intro w   hP
      refine V_bipush (v := (-2)) hX dX11_longest_74 (by decide) ?_
      exact hR _ _ _ _ (Option.some.inj hP) rfl dX11_longest_76
    exact sL_X11_longest_22 hX hR  k20 F _ _  hP
  · replace hP := ite_t hc5 hP
    refine V_iconst (v := (-1)) hX dX11_longest_17 (by decide) ?_
    exact hR _ _ _ _ (Option.some.inj hP) rfl dX11_longest_18
theorem c_X11_longest (l : Launch) (S : Sx) {r : Int32 × Wd} {F : Nat} {w : Wd} {x1 : Int32}  (h : P_X11_longest F w x1 = some r) : Met l yX11_longest (wsg yX11_longest cX11_longest 4 (some .int)) rm_X11_longest (PC S w [rf S 88, .int x1]) (QCi S r) 0 0 (Aw S) :=
  met_i (by decide) rfl (Nat.le_of_ble_eq_true rfl) ⟨rfl, rfl⟩ (fun X hX hR => s_X11_longest  hX hR h)

-- MustNotStopModel.change(I)I
abbrev rm_X11_change : Room := { frames := 8, cells := 0, slots := 0, locals := 221 }
theorem nk_X11_change : MNk yX11_change RX11 1 := ⟨rfl, by decide, by decide, by decide +kernel⟩
def L_X11_change_21 (F : Nat) (x1 : Int32) (k45 : Wd → Option (Int32 × Wd)) : Nat → Wd → Int32 → Option (Int32 × Wd)
  | 0, _, _ => none
  | n + 1, w, x6 => (if (16 : Int32) ≤ x6 then k45 w  else gd (inB x6 16) (gd (inB x6 16) (lt (sI w 109 x6.toNatClampNeg (gI w 95 x6.toNatClampNeg)) (fun w10 => lt (x6 + 1 : Int32) (fun x11 => L_X11_change_21 F x1 k45 n w10 x11)))))
set_option maxRecDepth 100000 in
set_option maxHeartbeats 4000000 in
theorem sL_X11_change_21 {X : Cx} {S : Sx} {r : Int32 × Wd} {F : Nat} {x1 : Int32} {k45 : Wd → Option (Int32 × Wd)} (hX : Ok X S cX11_change RX11 4 rm_X11_change) (hR : HRt X S cX11_change .int r)  (hk45 : ∀ (w : Wd), k45 w = some r → V X S w 45 [(0, rf S 88), (1, .int x1)] []) : ∀ (n : Nat) (w : Wd) (x6 : Int32) , L_X11_change_21 F x1 k45 n w x6 = some r → V X S w 21 [(0, rf S 88), (1, .int x1), (2, .int x6)] [] := by
  intro n
  induction n with
  | zero =>
    intro w x6  hP
    exact nn hP
  | succ n ih =>
    intro w x6  hP
    rw [L_X11_change_21] at hP
    refine V_iload_n hX dX11_change_21 2 rfl ?_
    refine V_bipush (v := 16) hX dX11_change_22 (by decide) ?_
    refine V_icmp_ge (tgt := 45) hX dX11_change_24 (by decide) (fun hc7 => ?_) (fun hc7 => ?_)
    · replace hP := ite_t hc7 hP
      refine V_sub (lv' := [(0, rf S 88), (1, .int x1)]) [0, 1] rfl ?_
      exact hk45 _   hP
    · replace hP := ite_f hc7 hP
      refine V_aload_n hX dX11_change_27 0 rfl ?_
      refine V_getF (j := 109) hX fk_X11_71 tb_88 (fun _ _ _ => rfl) dX11_change_28 ?_
      refine V_iload_n hX dX11_change_31 2 rfl ?_
      refine V_aload_n hX dX11_change_32 0 rfl ?_
      refine V_getF (j := 95) hX fk_X11_29 tb_88 (fun _ _ _ => rfl) dX11_change_33 ?_
      refine V_iload_n hX dX11_change_36 2 rfl ?_
      obtain ⟨hi8, hP⟩ := gd_e hP
      refine V_iald hX tb_95 hi8 dX11_change_37 ?_
      obtain ⟨hi9, hP⟩ := gd_e hP
      refine V_iast hX tb_109 hi9 dX11_change_38 (fun w10 ew10 => ?_)
      replace hP := lt_r ew10 hP
      obtain ⟨x11, ex11⟩ : ∃ y : Int32, y = x6 + 1 := ⟨_, rfl⟩
      replace hP := lt_r ex11 hP
      refine V_iinc (v := x11) (lv' := [(2, .int x11), (0, rf S 88), (1, .int x1)]) hX dX11_change_39 (j := 2) rfl (by decide) (by rw [ex11]; rfl) rfl ?_
      refine V_goto (tgt := 21) hX dX11_change_42 (by decide) ?_
      refine V_sub (lv' := [(0, rf S 88), (1, .int x1), (2, .int x11)]) [1, 2, 0] rfl ?_
      exact ih _ _  hP
def L_X11_change_56 (F : Nat) (x1 : Int32) (x14 : Int32) (k80 : Wd → Option (Int32 × Wd)) : Nat → Wd → Int32 → Option (Int32 × Wd)
  | 0, _, _ => none
  | n + 1, w, x15 => (if (16 : Int32) ≤ x15 then k80 w  else gd (inB x15 16) (gd (inB x15 16) (lt (sI w 96 x15.toNatClampNeg (gI w 109 x15.toNatClampNeg)) (fun w19 => lt (x15 + 1 : Int32) (fun x20 => L_X11_change_56 F x1 x14 k80 n w19 x20)))))
set_option maxRecDepth 100000 in
set_option maxHeartbeats 4000000 in
theorem sL_X11_change_56 {X : Cx} {S : Sx} {r : Int32 × Wd} {F : Nat} {x1 : Int32} {x14 : Int32} {k80 : Wd → Option (Int32 × Wd)} (hX : Ok X S cX11_change RX11 4 rm_X11_change) (hR : HRt X S cX11_change .int r)  (hk80 : ∀ (w : Wd), k80 w = some r → V X S w 80 [(0, rf S 88), (1, .int x1), (2, .int x14)] []) : ∀ (n : Nat) (w : Wd) (x15 : Int32) , L_X11_change_56 F x1 x14 k80 n w x15 = some r → V X S w 56 [(0, rf S 88), (1, .int x1), (2, .int x14), (3, .int x15)] [] := by
  intro n
  induction n with
  | zero =>
    intro w x15  hP
    exact nn hP
  | succ n ih =>
    intro w x15  hP
    rw [L_X11_change_56] at hP
    refine V_iload_n hX dX11_change_56 3 rfl ?_
    refine V_bipush (v := 16) hX dX11_change_57 (by decide) ?_
    refine V_icmp_ge (tgt := 80) hX dX11_change_59 (by decide) (fun hc16 => ?_) (fun hc16 => ?_)
    · replace hP := ite_t hc16 hP
      refine V_sub (lv' := [(0, rf S 88), (1, .int x1), (2, .int x14)]) [0, 1, 2] rfl ?_
      exact hk80 _   hP
    · replace hP := ite_f hc16 hP
      refine V_aload_n hX dX11_change_62 0 rfl ?_
      refine V_getF (j := 96) hX fk_X11_32 tb_88 (fun _ _ _ => rfl) dX11_change_63 ?_
      refine V_iload_n hX dX11_change_66 3 rfl ?_
      refine V_aload_n hX dX11_change_67 0 rfl ?_
      refine V_getF (j := 109) hX fk_X11_71 tb_88 (fun _ _ _ => rfl) dX11_change_68 ?_
      refine V_iload_n hX dX11_change_71 3 rfl ?_
      obtain ⟨hi17, hP⟩ := gd_e hP
      refine V_iald hX tb_109 hi17 dX11_change_72 ?_
      obtain ⟨hi18, hP⟩ := gd_e hP
      refine V_iast hX tb_96 hi18 dX11_change_73 (fun w19 ew19 => ?_)
      replace hP := lt_r ew19 hP
      obtain ⟨x20, ex20⟩ : ∃ y : Int32, y = x15 + 1 := ⟨_, rfl⟩
      replace hP := lt_r ex20 hP
      refine V_iinc (v := x20) (lv' := [(3, .int x20), (0, rf S 88), (1, .int x1), (2, .int x14)]) hX dX11_change_74 (j := 3) rfl (by decide) (by rw [ex20]; rfl) rfl ?_
      refine V_goto (tgt := 56) hX dX11_change_77 (by decide) ?_
      refine V_sub (lv' := [(0, rf S 88), (1, .int x1), (2, .int x14), (3, .int x20)]) [1, 2, 3, 0] rfl ?_
      exact ih _ _  hP
def L_X11_change_47 (F : Nat) (x1 : Int32) (k132 : Wd → Option (Int32 × Wd)) : Nat → Wd → Int32 → Option (Int32 × Wd)
  | 0, _, _ => none
  | n + 1, w, x12 => (if (999 : Int32) < x12 then k132 w  else L_X11_change_56 F x1 x12 (fun w  => gd (inB 8 16) (lt (sI w 96 8 0) (fun w22 => bnd (P_X11_goesOn F w22 96 x1) (fun x24 w23 => gd (inB 13 16) (gd (inB 13 16) ((if (gI w23 96 13) = (gI w23 109 13) then some (x12, w23) else bnd (P_X11_minuteGoes F w23 109) (fun x29 w28 => lt (x12 + 1 : Int32) (fun x30 => L_X11_change_47 F x1 k132 n w28 x30))))))))) F w 0)
set_option maxRecDepth 100000 in
set_option maxHeartbeats 4000000 in
theorem sL_X11_change_47 {X : Cx} {S : Sx} {r : Int32 × Wd} {F : Nat} {x1 : Int32} {k132 : Wd → Option (Int32 × Wd)} (hX : Ok X S cX11_change RX11 4 rm_X11_change) (hR : HRt X S cX11_change .int r)  (hk132 : ∀ (w : Wd), k132 w = some r → V X S w 132 [] []) : ∀ (n : Nat) (w : Wd) (x12 : Int32) , L_X11_change_47 F x1 k132 n w x12 = some r → V X S w 47 [(0, rf S 88), (1, .int x1), (2, .int x12)] [] := by
  intro n
  induction n with
  | zero =>
    intro w x12  hP
    exact nn hP
  | succ n ih =>
    intro w x12  hP
    rw [L_X11_change_47] at hP
    refine V_iload_n hX dX11_change_47 2 rfl ?_
    refine V_sipush (v := 999) hX dX11_change_48 (by decide) ?_
    refine V_icmp_gt (tgt := 132) hX dX11_change_51 (by decide) (fun hc13 => ?_) (fun hc13 => ?_)
    · replace hP := ite_t hc13 hP
      refine V_sub (lv' := []) [] rfl ?_
      exact hk132 _   hP
    · replace hP := ite_f hc13 hP
      refine V_iconst (v := 0) hX dX11_change_54 (by decide) ?_
      refine V_istore_n (lv' := [(3, .int 0), (0, rf S 88), (1, .int x1), (2, .int x12)]) hX dX11_change_55 (by decide) rfl ?_
      refine V_sub (lv' := [(0, rf S 88), (1, .int x1), (2, .int x12), (3, .int 0)]) [1, 2, 3, 0] rfl ?_
      have k31 : ∀ (w : Wd)  , (gd (inB 8 16) (lt (sI w 96 8 0) (fun w22 => bnd (P_X11_goesOn F w22 96 x1) (fun x24 w23 => gd (inB 13 16) (gd (inB 13 16) ((if (gI w23 96 13) = (gI w23 109 13) then some (x12, w23) else bnd (P_X11_minuteGoes F w23 109) (fun x29 w28 => lt (x12 + 1 : Int32) (fun x30 => L_X11_change_47 F x1 k132 n w28 x30))))))))) = some r → V X S w 80 [(0, rf S 88), (1, .int x1), (2, .int x12)] [] := by
        intro w   hP
        refine V_aload_n hX dX11_change_80 0 rfl ?_
        refine V_getF (j := 96) hX fk_X11_32 tb_88 (fun _ _ _ => rfl) dX11_change_81 ?_
        refine V_bipush (v := 8) hX dX11_change_84 (by decide) ?_
        refine V_iconst (v := 0) hX dX11_change_86 (by decide) ?_
        obtain ⟨hi21, hP⟩ := gd_e hP
        refine V_iast hX tb_96 hi21 dX11_change_87 (fun w22 ew22 => ?_)
        replace hP := lt_r ew22 hP
        refine V_aload_n hX dX11_change_88 0 rfl ?_
        refine V_aload_n hX dX11_change_89 0 rfl ?_
        refine V_getF (j := 96) hX fk_X11_32 tb_88 (fun _ _ _ => rfl) dX11_change_90 ?_
        refine V_iload_n hX dX11_change_93 1 rfl ?_
        obtain ⟨x24, w23, hcw23, hP⟩ := bnd_e hP
        refine V_callVi (As := [rf S 96, .int x1]) (rest := []) hX mk_X11_313 nk_X11_goesOn (fun l => c_X11_goesOn l S (by decide) hcw23) tb_88 rfl ⟨rfl, rfl, Nat.le_of_ble_eq_true rfl, Nat.le_of_ble_eq_true rfl⟩ rfl rfl (Nat.le_of_ble_eq_true rfl) dX11_change_94 ?_
        refine V_pop hX dX11_change_97 rfl ?_
        refine V_aload_n hX dX11_change_98 0 rfl ?_
        refine V_getF (j := 96) hX fk_X11_32 tb_88 (fun _ _ _ => rfl) dX11_change_99 ?_
        refine V_bipush (v := 13) hX dX11_change_102 (by decide) ?_
        obtain ⟨hi25, hP⟩ := gd_e hP
        refine V_iald hX tb_96 hi25 dX11_change_104 ?_
        refine V_aload_n hX dX11_change_105 0 rfl ?_
        refine V_getF (j := 109) hX fk_X11_71 tb_88 (fun _ _ _ => rfl) dX11_change_106 ?_
        refine V_bipush (v := 13) hX dX11_change_109 (by decide) ?_
        obtain ⟨hi26, hP⟩ := gd_e hP
        refine V_iald hX tb_109 hi26 dX11_change_111 ?_
        refine V_icmp_ne (tgt := 117) hX dX11_change_112 (by decide) (fun hc27 => ?_) (fun hc27 => ?_)
        · replace hP := ite_f hc27 hP
          refine V_aload_n hX dX11_change_117 0 rfl ?_
          refine V_aload_n hX dX11_change_118 0 rfl ?_
          refine V_getF (j := 109) hX fk_X11_71 tb_88 (fun _ _ _ => rfl) dX11_change_119 ?_
          obtain ⟨x29, w28, hcw28, hP⟩ := bnd_e hP
          refine V_callVi (As := [rf S 109]) (rest := []) hX mk_X11_307 nk_X11_minuteGoes (fun l => c_X11_minuteGoes l S (by decide) hcw28) tb_88 rfl ⟨rfl, rfl, Nat.le_of_ble_eq_true rfl, Nat.le_of_ble_eq_true rfl⟩ rfl rfl (Nat.le_of_ble_eq_true rfl) dX11_change_122 ?_
          refine V_pop hX dX11_change_125 rfl ?_
          obtain ⟨x30, ex30⟩ : ∃ y : Int32, y = x12 + 1 := ⟨_, rfl⟩
          replace hP := lt_r ex30 hP
          refine V_iinc (v := x30) (lv' := [(2, .int x30), (0, rf S 88), (1, .int x1)]) hX dX11_change_126 (j := 2) rfl (by decide) (by rw [ex30]; rfl) rfl ?_
          refine V_goto (tgt := 47) hX dX11_change_129 (by decide) ?_
          refine V_sub (lv' := [(0, rf S 88), (1, .int x1), (2, .int x30)]) [1, 2, 0] rfl ?_
          exact ih _ _  hP
        · replace hP := ite_t hc27 hP
          refine V_iload_n hX dX11_change_115 2 rfl ?_
          exact hR _ _ _ _ (Option.some.inj hP) rfl dX11_change_116
      exact sL_X11_change_56 hX hR  k31 F _ _  hP
def P_X11_change (F : Nat) (w : Wd) (x1 : Int32) : Option (Int32 × Wd) := lt (sI w 88 0 0) (fun w2 => bnd (P_X11_in F w2 (Int32.toInt64 x1) 0 30) (fun x4 w3 => (if x4 = 0 then some ((-1), w3) else L_X11_change_21 F x1 (fun w  => L_X11_change_47 F x1 (fun w  => some ((-2), w)) F w 0) F w3 0)))
set_option maxRecDepth 100000 in
set_option maxHeartbeats 4000000 in
theorem s_X11_change {X : Cx} {S : Sx} {r : Int32 × Wd} {F : Nat} {w : Wd} {x1 : Int32}  (hX : Ok X S cX11_change RX11 4 rm_X11_change) (hR : HRt X S cX11_change .int r) (hP : P_X11_change F w x1 = some r) : V X S w 0 [(0, rf S 88), (1, .int x1)] [] := by
  unfold P_X11_change at hP
  refine V_aload_n hX dX11_change_0 0 rfl ?_
  refine V_iconst (v := 0) hX dX11_change_1 (by decide) ?_
  refine V_putI hX fw_X11_102 tb_88 (fun _ _ _ => ⟨Nat.le_of_ble_eq_true rfl, rfl⟩) dX11_change_2 (fun w2 ew2 => ?_)
  replace hP := lt_r ew2 hP
  refine V_iload_n hX dX11_change_5 1 rfl ?_
  refine V_i2l hX dX11_change_6 ?_
  refine V_lconst (v := 0) hX dX11_change_7 rfl ?_
  refine V_ldc2 (v := 30) hX dX11_change_8 cn_X11_274 ?_
  obtain ⟨x4, w3, hcw3, hP⟩ := bnd_e hP
  refine V_callSi (As := [.long (Int32.toInt64 x1), .long 0, .long 30]) (rest := []) hX mk_X11_116 nk_X11_in (fun l => c_X11_in l S  hcw3) ⟨rfl, rfl, Nat.le_of_ble_eq_true rfl, Nat.le_of_ble_eq_true rfl⟩ rfl rfl (Nat.le_of_ble_eq_true rfl) dX11_change_11 ?_
  refine V_if_ne (tgt := 19) hX dX11_change_14 (by decide) (fun hc5 => ?_) (fun hc5 => ?_)
  · replace hP := ite_f hc5 hP
    refine V_iconst (v := 0) hX dX11_change_19 (by decide) ?_
    refine V_istore_n (lv' := [(2, .int 0), (0, rf S 88), (1, .int x1)]) hX dX11_change_20 (by decide) rfl ?_
    refine V_sub (lv' := [(0, rf S 88), (1, .int x1), (2, .int 0)]) [1, 2, 0] rfl ?_
    have k33 : ∀ (w : Wd)  , (L_X11_change_47 F x1 (fun w  => some ((-2), w)) F w 0) = some r → V X S w 45 [(0, rf S 88), (1, .int x1)] [] := by
      intro w   hP
      refine V_iconst (v := 0) hX dX11_change_45 (by decide) ?_
      refine V_istore_n (lv' := [(2, .int 0), (0, rf S 88), (1, .int x1)]) hX dX11_change_46 (by decide) rfl ?_
      refine V_sub (lv' := [(0, rf S 88), (1, .int x1), (2, .int 0)]) [1, 2, 0] rfl ?_
      have k32 : ∀ (w : Wd)  , (some ((-2), w)) = some r → V X S w 132 [] [] := by
        intro w   hP
        refine V_bipush (v := (-2)) hX dX11_change_132 (by decide) ?_
        exact hR _ _ _ _ (Option.some.inj hP) rfl dX11_change_134
      exact sL_X11_change_47 hX hR  k32 F _ _  hP
    exact sL_X11_change_21 hX hR  k33 F _ _  hP
  · replace hP := ite_t hc5 hP
    refine V_iconst (v := (-1)) hX dX11_change_17 (by decide) ?_
    exact hR _ _ _ _ (Option.some.inj hP) rfl dX11_change_18
theorem c_X11_change (l : Launch) (S : Sx) {r : Int32 × Wd} {F : Nat} {w : Wd} {x1 : Int32}  (h : P_X11_change F w x1 = some r) : Met l yX11_change (wsg yX11_change cX11_change 4 (some .int)) rm_X11_change (PC S w [rf S 88, .int x1]) (QCi S r) 0 0 (Aw S) :=
  met_i (by decide) rfl (Nat.le_of_ble_eq_true rfl) ⟨rfl, rfl⟩ (fun X hX hR => s_X11_change  hX hR h)

-- MustNotStopModel.allPeople()I
abbrev rm_X11_allPeople : Room := { frames := 1, cells := 0, slots := 0, locals := 64 }
theorem nk_X11_allPeople : MNk yX11_allPeople RX11 0 := ⟨rfl, by decide, by decide, by decide +kernel⟩
def P_X11_allPeople (F : Nat) (w : Wd)  : Option (Int32 × Wd) := some ((ishlI 1 (gI w 88 4)) - 1, w)
set_option maxRecDepth 100000 in
set_option maxHeartbeats 4000000 in
theorem s_X11_allPeople {X : Cx} {S : Sx} {r : Int32 × Wd} {F : Nat} {w : Wd}   (hX : Ok X S cX11_allPeople RX11 1 rm_X11_allPeople) (hR : HRt X S cX11_allPeople .int r) (hP : P_X11_allPeople F w  = some r) : V X S w 0 [(0, rf S 88)] [] := by
  unfold P_X11_allPeople at hP
  refine V_iconst (v := 1) hX dX11_allPeople_0 (by decide) ?_
  refine V_aload_n hX dX11_allPeople_1 0 rfl ?_
  refine V_getI hX fk_X11_202 tb_88 (fun _ _ _ => rfl) dX11_allPeople_2 ?_
  refine V_ishl hX dX11_allPeople_5 ?_
  refine V_iconst (v := 1) hX dX11_allPeople_6 (by decide) ?_
  refine V_isub hX dX11_allPeople_7 ?_
  exact hR _ _ _ _ (Option.some.inj hP) rfl dX11_allPeople_8
theorem c_X11_allPeople (l : Launch) (S : Sx) {r : Int32 × Wd} {F : Nat} {w : Wd}   (h : P_X11_allPeople F w  = some r) : Met l yX11_allPeople (wsg yX11_allPeople cX11_allPeople 1 (some .int)) rm_X11_allPeople (PC S w [rf S 88]) (QCi S r) 0 0 (Aw S) :=
  met_i (by decide) rfl (Nat.le_of_ble_eq_true rfl) ⟨rfl, rfl⟩ (fun X hX hR => s_X11_allPeople  hX hR h)

-- MustNotStopModel.spreads(I)I
abbrev rm_X11_spreads : Room := { frames := 2, cells := 0, slots := 0, locals := 84 }
theorem nk_X11_spreads : MNk yX11_spreads RX11 1 := ⟨rfl, by decide, by decide, by decide +kernel⟩
def K_X11_spreads_60 (F : Nat) (x1 : Int32) (x6 : Int32) (k84 : Wd → Int32 → Option (Int32 × Wd)) (rc : Wd → Int32 → Int32 → Option (Int32 × Wd)) (w : Wd) (x15 : Int32) (x16 : Int32) (x17 : Int32) : Option (Int32 × Wd) := lt (if x17 = 0 then 0 else ishlI 1 x16 : Int32) (fun x19 => lt (x15 ||| x19 : Int32) (fun x20 => lt (x16 + 1 : Int32) (fun x21 => rc w x20 x21)))
set_option maxRecDepth 100000 in
set_option maxHeartbeats 4000000 in
theorem sK_X11_spreads_60 {X : Cx} {S : Sx} {r : Int32 × Wd} {F : Nat} {x1 : Int32} {x6 : Int32} {k84 : Wd → Int32 → Option (Int32 × Wd)} {rc : Wd → Int32 → Int32 → Option (Int32 × Wd)} {w : Wd} {x15 : Int32} {x16 : Int32} {x17 : Int32} (hX : Ok X S cX11_spreads RX11 6 rm_X11_spreads) (hR : HRt X S cX11_spreads .int r)  (hk84 : ∀ (w : Wd) (x9 : Int32) , k84 w x9 = some r → V X S w 84 [(0, rf S 88), (1, .int x1), (2, .int x9), (3, .int x6)] []) (hrc : ∀ (w : Wd) (x7 : Int32) (x8 : Int32) , rc w x7 x8 = some r → V X S w 15 [(0, rf S 88), (1, .int x1), (2, .int x7), (3, .int x6), (4, .int x8)] [])  (hP : K_X11_spreads_60 F x1 x6 k84 rc w x15 x16 x17 = some r) : V X S w 60 [(0, rf S 88), (1, .int x1), (2, .int x15), (3, .int x6), (4, .int x16)] [.int x17] := by
  unfold K_X11_spreads_60 at hP
  refine V_istore (lv' := [(5, .int x17), (0, rf S 88), (1, .int x1), (2, .int x15), (3, .int x6), (4, .int x16)]) hX dX11_spreads_60 (by decide) rfl ?_
  refine V_iload_n hX dX11_spreads_62 3 rfl ?_
  refine V_iload hX dX11_spreads_63 0 rfl ?_
  have k22 : V X S w 76 [(5, .int x17), (0, rf S 88), (1, .int x1), (2, .int x15), (3, .int x6), (4, .int x16)] [.int (if x17 = 0 then 0 else ishlI 1 x16), .int x15] := by
    refine V_topi (fun x19 ex19 => ?_)
    replace hP := lt_r ex19 hP
    refine V_ior hX dX11_spreads_76 ?_
    refine V_topi (fun x20 ex20 => ?_)
    replace hP := lt_r ex20 hP
    refine V_istore_n (lv' := [(2, .int x20), (5, .int x17), (0, rf S 88), (1, .int x1), (3, .int x6), (4, .int x16)]) hX dX11_spreads_77 (by decide) rfl ?_
    obtain ⟨x21, ex21⟩ : ∃ y : Int32, y = x16 + 1 := ⟨_, rfl⟩
    replace hP := lt_r ex21 hP
    refine V_iinc (v := x21) (lv' := [(4, .int x21), (2, .int x20), (5, .int x17), (0, rf S 88), (1, .int x1), (3, .int x6)]) hX dX11_spreads_78 (j := 5) rfl (by decide) (by rw [ex21]; rfl) rfl ?_
    refine V_goto (tgt := 15) hX dX11_spreads_81 (by decide) ?_
    refine V_sub (lv' := [(0, rf S 88), (1, .int x1), (2, .int x20), (3, .int x6), (4, .int x21)]) [3, 4, 1, 5, 0] rfl ?_
    exact hrc _ _ _  hP
  refine V_if_eq (tgt := 75) hX dX11_spreads_65 (by decide) (fun hc18 => ?_) (fun hc18 => ?_)
  · refine V_iconst (v := 0) hX dX11_spreads_75 (by decide) ?_
    refine V_selT (c := x17 = 0) (b := ishlI 1 x16) hc18 ?_
    exact k22
  · refine V_iconst (v := 1) hX dX11_spreads_68 (by decide) ?_
    refine V_iload hX dX11_spreads_69 5 rfl ?_
    refine V_ishl hX dX11_spreads_71 ?_
    refine V_goto (tgt := 76) hX dX11_spreads_72 (by decide) ?_
    refine V_selF (c := x17 = 0) (a := 0) hc18 ?_
    exact k22
def K_X11_spreads_59 (F : Nat) (x1 : Int32) (x6 : Int32) (k84 : Wd → Int32 → Option (Int32 × Wd)) (rc : Wd → Int32 → Int32 → Option (Int32 × Wd)) (w : Wd) (x13 : Int32) (x14 : Int32) : Option (Int32 × Wd) := K_X11_spreads_60 F x1 x6 k84 rc w x13 x14 0
set_option maxRecDepth 100000 in
set_option maxHeartbeats 4000000 in
theorem sK_X11_spreads_59 {X : Cx} {S : Sx} {r : Int32 × Wd} {F : Nat} {x1 : Int32} {x6 : Int32} {k84 : Wd → Int32 → Option (Int32 × Wd)} {rc : Wd → Int32 → Int32 → Option (Int32 × Wd)} {w : Wd} {x13 : Int32} {x14 : Int32} (hX : Ok X S cX11_spreads RX11 6 rm_X11_spreads) (hR : HRt X S cX11_spreads .int r)  (hk84 : ∀ (w : Wd) (x9 : Int32) , k84 w x9 = some r → V X S w 84 [(0, rf S 88), (1, .int x1), (2, .int x9), (3, .int x6)] []) (hrc : ∀ (w : Wd) (x7 : Int32) (x8 : Int32) , rc w x7 x8 = some r → V X S w 15 [(0, rf S 88), (1, .int x1), (2, .int x7), (3, .int x6), (4, .int x8)] [])  (hP : K_X11_spreads_59 F x1 x6 k84 rc w x13 x14 = some r) : V X S w 59 [(0, rf S 88), (1, .int x1), (2, .int x13), (3, .int x6), (4, .int x14)] [] := by
  unfold K_X11_spreads_59 at hP
  refine V_iconst (v := 0) hX dX11_spreads_59 (by decide) ?_
  exact sK_X11_spreads_60 hX hR  hk84 hrc  hP
def L_X11_spreads_15 (F : Nat) (x1 : Int32) (x6 : Int32) (k84 : Wd → Int32 → Option (Int32 × Wd)) : Nat → Wd → Int32 → Int32 → Option (Int32 × Wd)
  | 0, _, _, _ => none
  | n + 1, w, x7, x8 => (if (gI w 88 4) ≤ x8 then k84 w x7 else gd (inB x8 8) ((if (gI w 93 x8.toNatClampNeg) ≤ 0 then K_X11_spreads_59 F x1 x6 k84 ((L_X11_spreads_15 F x1 x6 k84 n)) w x7 x8 else bnd (P_J6_bitCount_0f7a4 F w (x7 &&& ((ishlI 1 x8) ^^^ ((-1))))) (fun x24 w23 => gd (inB x8 8) (lt (if x24 < (gI w23 93 x8.toNatClampNeg) then 0 else 1 : Int32) (fun x27 => lt (if x27 = 0 then 0 else ishlI 1 x8 : Int32) (fun x29 => lt (x7 ||| x29 : Int32) (fun x30 => lt (x8 + 1 : Int32) (fun x31 => L_X11_spreads_15 F x1 x6 k84 n w23 x30 x31)))))))))
set_option maxRecDepth 100000 in
set_option maxHeartbeats 4000000 in
theorem sL_X11_spreads_15 {X : Cx} {S : Sx} {r : Int32 × Wd} {F : Nat} {x1 : Int32} {x6 : Int32} {k84 : Wd → Int32 → Option (Int32 × Wd)} (hX : Ok X S cX11_spreads RX11 6 rm_X11_spreads) (hR : HRt X S cX11_spreads .int r)  (hk84 : ∀ (w : Wd) (x9 : Int32) , k84 w x9 = some r → V X S w 84 [(0, rf S 88), (1, .int x1), (2, .int x9), (3, .int x6)] []) : ∀ (n : Nat) (w : Wd) (x7 : Int32) (x8 : Int32) , L_X11_spreads_15 F x1 x6 k84 n w x7 x8 = some r → V X S w 15 [(0, rf S 88), (1, .int x1), (2, .int x7), (3, .int x6), (4, .int x8)] [] := by
  intro n
  induction n with
  | zero =>
    intro w x7 x8  hP
    exact nn hP
  | succ n ih =>
    intro w x7 x8  hP
    rw [L_X11_spreads_15] at hP
    refine V_iload hX dX11_spreads_15 4 rfl ?_
    refine V_aload_n hX dX11_spreads_17 0 rfl ?_
    refine V_getI hX fk_X11_202 tb_88 (fun _ _ _ => rfl) dX11_spreads_18 ?_
    refine V_icmp_ge (tgt := 84) hX dX11_spreads_21 (by decide) (fun hc10 => ?_) (fun hc10 => ?_)
    · replace hP := ite_t hc10 hP
      refine V_sub (lv' := [(0, rf S 88), (1, .int x1), (2, .int x7), (3, .int x6)]) [0, 1, 2, 3] rfl ?_
      exact hk84 _ _  hP
    · replace hP := ite_f hc10 hP
      refine V_aload_n hX dX11_spreads_24 0 rfl ?_
      refine V_getF (j := 93) hX fk_X11_23 tb_88 (fun _ _ _ => rfl) dX11_spreads_25 ?_
      refine V_iload hX dX11_spreads_28 4 rfl ?_
      obtain ⟨hi11, hP⟩ := gd_e hP
      refine V_iald hX tb_93 hi11 dX11_spreads_30 ?_
      refine V_if_le (tgt := 59) hX dX11_spreads_31 (by decide) (fun hc12 => ?_) (fun hc12 => ?_)
      · replace hP := ite_t hc12 hP
        exact sK_X11_spreads_59 hX hR  hk84 ih  hP
      · replace hP := ite_f hc12 hP
        refine V_iload_n hX dX11_spreads_34 2 rfl ?_
        refine V_iconst (v := 1) hX dX11_spreads_35 (by decide) ?_
        refine V_iload hX dX11_spreads_36 4 rfl ?_
        refine V_ishl hX dX11_spreads_38 ?_
        refine V_iconst (v := (-1)) hX dX11_spreads_39 (by decide) ?_
        refine V_ixor hX dX11_spreads_40 ?_
        refine V_iand hX dX11_spreads_41 ?_
        obtain ⟨x24, w23, hcw23, hP⟩ := bnd_e hP
        refine V_callSi (As := [.int (x7 &&& ((ishlI 1 x8) ^^^ ((-1))))]) (rest := []) hX mk_X11_248 nk_J6_bitCount_0f7a4 (fun l => c_J6_bitCount_0f7a4 l S  hcw23) ⟨rfl, rfl, Nat.le_of_ble_eq_true rfl, Nat.le_of_ble_eq_true rfl⟩ rfl rfl (Nat.le_of_ble_eq_true rfl) dX11_spreads_42 ?_
        refine V_aload_n hX dX11_spreads_45 0 rfl ?_
        refine V_getF (j := 93) hX fk_X11_23 tb_88 (fun _ _ _ => rfl) dX11_spreads_46 ?_
        refine V_iload hX dX11_spreads_49 4 rfl ?_
        obtain ⟨hi25, hP⟩ := gd_e hP
        refine V_iald hX tb_93 hi25 dX11_spreads_51 ?_
        have k33 : V X S w23 60 [(0, rf S 88), (1, .int x1), (2, .int x7), (3, .int x6), (4, .int x8)] [.int (if x24 < (gI w23 93 x8.toNatClampNeg) then 0 else 1)] := by
          refine V_topi (fun x27 ex27 => ?_)
          replace hP := lt_r ex27 hP
          refine V_istore (lv' := [(5, .int x27), (0, rf S 88), (1, .int x1), (2, .int x7), (3, .int x6), (4, .int x8)]) hX dX11_spreads_60 (by decide) rfl ?_
          refine V_iload_n hX dX11_spreads_62 3 rfl ?_
          refine V_iload hX dX11_spreads_63 0 rfl ?_
          have k32 : V X S w23 76 [(5, .int x27), (0, rf S 88), (1, .int x1), (2, .int x7), (3, .int x6), (4, .int x8)] [.int (if x27 = 0 then 0 else ishlI 1 x8), .int x7] := by
            refine V_topi (fun x29 ex29 => ?_)
            replace hP := lt_r ex29 hP
            refine V_ior hX dX11_spreads_76 ?_
            refine V_topi (fun x30 ex30 => ?_)
            replace hP := lt_r ex30 hP
            refine V_istore_n (lv' := [(2, .int x30), (5, .int x27), (0, rf S 88), (1, .int x1), (3, .int x6), (4, .int x8)]) hX dX11_spreads_77 (by decide) rfl ?_
            obtain ⟨x31, ex31⟩ : ∃ y : Int32, y = x8 + 1 := ⟨_, rfl⟩
            replace hP := lt_r ex31 hP
            refine V_iinc (v := x31) (lv' := [(4, .int x31), (2, .int x30), (5, .int x27), (0, rf S 88), (1, .int x1), (3, .int x6)]) hX dX11_spreads_78 (j := 5) rfl (by decide) (by rw [ex31]; rfl) rfl ?_
            refine V_goto (tgt := 15) hX dX11_spreads_81 (by decide) ?_
            refine V_sub (lv' := [(0, rf S 88), (1, .int x1), (2, .int x30), (3, .int x6), (4, .int x31)]) [3, 4, 1, 5, 0] rfl ?_
            exact ih _ _ _  hP
          refine V_if_eq (tgt := 75) hX dX11_spreads_65 (by decide) (fun hc28 => ?_) (fun hc28 => ?_)
          · refine V_iconst (v := 0) hX dX11_spreads_75 (by decide) ?_
            refine V_selT (c := x27 = 0) (b := ishlI 1 x8) hc28 ?_
            exact k32
          · refine V_iconst (v := 1) hX dX11_spreads_68 (by decide) ?_
            refine V_iload hX dX11_spreads_69 5 rfl ?_
            refine V_ishl hX dX11_spreads_71 ?_
            refine V_goto (tgt := 76) hX dX11_spreads_72 (by decide) ?_
            refine V_selF (c := x27 = 0) (a := 0) hc28 ?_
            exact k32
        refine V_icmp_lt (tgt := 59) hX dX11_spreads_52 (by decide) (fun hc26 => ?_) (fun hc26 => ?_)
        · refine V_iconst (v := 0) hX dX11_spreads_59 (by decide) ?_
          refine V_selT (c := x24 < (gI w23 93 x8.toNatClampNeg)) (b := 1) hc26 ?_
          exact k33
        · refine V_iconst (v := 1) hX dX11_spreads_55 (by decide) ?_
          refine V_goto (tgt := 60) hX dX11_spreads_56 (by decide) ?_
          refine V_selF (c := x24 < (gI w23 93 x8.toNatClampNeg)) (a := 0) hc26 ?_
          exact k33
def L_X11_spreads_4 (F : Nat) (x1 : Int32) (k90 : Wd → Int32 → Option (Int32 × Wd)) : Nat → Wd → Int32 → Int32 → Option (Int32 × Wd)
  | 0, _, _, _ => none
  | n + 1, w, x2, x3 => (if (gI w 88 4) ≤ x3 then k90 w x2 else L_X11_spreads_15 F x1 x3 (fun w x9 => lt (x3 + 1 : Int32) (fun x34 => L_X11_spreads_4 F x1 k90 n w x9 x34)) F w x2 0)
set_option maxRecDepth 100000 in
set_option maxHeartbeats 4000000 in
theorem sL_X11_spreads_4 {X : Cx} {S : Sx} {r : Int32 × Wd} {F : Nat} {x1 : Int32} {k90 : Wd → Int32 → Option (Int32 × Wd)} (hX : Ok X S cX11_spreads RX11 6 rm_X11_spreads) (hR : HRt X S cX11_spreads .int r)  (hk90 : ∀ (w : Wd) (x4 : Int32) , k90 w x4 = some r → V X S w 90 [(2, .int x4)] []) : ∀ (n : Nat) (w : Wd) (x2 : Int32) (x3 : Int32) , L_X11_spreads_4 F x1 k90 n w x2 x3 = some r → V X S w 4 [(0, rf S 88), (2, .int x2), (3, .int x3), (1, .int x1)] [] := by
  intro n
  induction n with
  | zero =>
    intro w x2 x3  hP
    exact nn hP
  | succ n ih =>
    intro w x2 x3  hP
    rw [L_X11_spreads_4] at hP
    refine V_iload_n hX dX11_spreads_4 2 rfl ?_
    refine V_aload_n hX dX11_spreads_5 0 rfl ?_
    refine V_getI hX fk_X11_202 tb_88 (fun _ _ _ => rfl) dX11_spreads_6 ?_
    refine V_icmp_ge (tgt := 90) hX dX11_spreads_9 (by decide) (fun hc5 => ?_) (fun hc5 => ?_)
    · replace hP := ite_t hc5 hP
      refine V_sub (lv' := [(2, .int x2)]) [1] rfl ?_
      exact hk90 _ _  hP
    · replace hP := ite_f hc5 hP
      refine V_iconst (v := 0) hX dX11_spreads_12 (by decide) ?_
      refine V_istore (lv' := [(4, .int 0), (0, rf S 88), (2, .int x2), (3, .int x3), (1, .int x1)]) hX dX11_spreads_13 (by decide) rfl ?_
      refine V_sub (lv' := [(0, rf S 88), (1, .int x1), (2, .int x2), (3, .int x3), (4, .int 0)]) [1, 4, 2, 3, 0] rfl ?_
      have k35 : ∀ (w : Wd) (x9 : Int32) , (lt (x3 + 1 : Int32) (fun x34 => L_X11_spreads_4 F x1 k90 n w x9 x34)) = some r → V X S w 84 [(0, rf S 88), (1, .int x1), (2, .int x9), (3, .int x3)] [] := by
        intro w x9  hP
        obtain ⟨x34, ex34⟩ : ∃ y : Int32, y = x3 + 1 := ⟨_, rfl⟩
        replace hP := lt_r ex34 hP
        refine V_iinc (v := x34) (lv' := [(3, .int x34), (0, rf S 88), (1, .int x1), (2, .int x9)]) hX dX11_spreads_84 (j := 3) rfl (by decide) (by rw [ex34]; rfl) rfl ?_
        refine V_goto (tgt := 4) hX dX11_spreads_87 (by decide) ?_
        refine V_sub (lv' := [(0, rf S 88), (2, .int x9), (3, .int x34), (1, .int x1)]) [1, 3, 0, 2] rfl ?_
        exact ih _ _ _  hP
      exact sL_X11_spreads_15 hX hR  k35 F _ _ _  hP
def P_X11_spreads (F : Nat) (w : Wd) (x1 : Int32) : Option (Int32 × Wd) := L_X11_spreads_4 F x1 (fun w x4 => some (x4, w)) F w x1 0
set_option maxRecDepth 100000 in
set_option maxHeartbeats 4000000 in
theorem s_X11_spreads {X : Cx} {S : Sx} {r : Int32 × Wd} {F : Nat} {w : Wd} {x1 : Int32}  (hX : Ok X S cX11_spreads RX11 6 rm_X11_spreads) (hR : HRt X S cX11_spreads .int r) (hP : P_X11_spreads F w x1 = some r) : V X S w 0 [(0, rf S 88), (1, .int x1)] [] := by
  unfold P_X11_spreads at hP
  refine V_iload_n hX dX11_spreads_0 1 rfl ?_
  refine V_istore_n (lv' := [(2, .int x1), (0, rf S 88), (1, .int x1)]) hX dX11_spreads_1 (by decide) rfl ?_
  refine V_iconst (v := 0) hX dX11_spreads_2 (by decide) ?_
  refine V_istore_n (lv' := [(3, .int 0), (2, .int x1), (0, rf S 88), (1, .int x1)]) hX dX11_spreads_3 (by decide) rfl ?_
  refine V_sub (lv' := [(0, rf S 88), (2, .int x1), (3, .int 0), (1, .int x1)]) [2, 1, 0, 3] rfl ?_
  have k36 : ∀ (w : Wd) (x4 : Int32) , (some (x4, w)) = some r → V X S w 90 [(2, .int x4)] [] := by
    intro w x4  hP
    refine V_iload_n hX dX11_spreads_90 0 rfl ?_
    exact hR _ _ _ _ (Option.some.inj hP) rfl dX11_spreads_91
  exact sL_X11_spreads_4 hX hR  k36 F _ _ _  hP
theorem c_X11_spreads (l : Launch) (S : Sx) {r : Int32 × Wd} {F : Nat} {w : Wd} {x1 : Int32}  (h : P_X11_spreads F w x1 = some r) : Met l yX11_spreads (wsg yX11_spreads cX11_spreads 6 (some .int)) rm_X11_spreads (PC S w [rf S 88, .int x1]) (QCi S r) 0 0 (Aw S) :=
  met_i (by decide) rfl (Nat.le_of_ble_eq_true rfl) ⟨rfl, rfl⟩ (fun X hX hR => s_X11_spreads  hX hR h)

-- MustNotStopModel.hearing(I)I
abbrev rm_X11_hearing : Room := { frames := 1, cells := 0, slots := 0, locals := 64 }
theorem nk_X11_hearing : MNk yX11_hearing RX11 1 := ⟨rfl, by decide, by decide, by decide +kernel⟩
def L_X11_hearing_4 (F : Nat) (x1 : Int32) (k38 : Wd → Int32 → Option (Int32 × Wd)) : Nat → Wd → Int32 → Int32 → Option (Int32 × Wd)
  | 0, _, _, _ => none
  | n + 1, w, x2, x3 => (if (gI w 88 4) ≤ x3 then k38 w x2 else gd (inB x3 8) (lt (if x1 < (gI w 92 x3.toNatClampNeg) then 0 else ishlI 1 x3 : Int32) (fun x8 => lt (x2 ||| x8 : Int32) (fun x9 => lt (x3 + 1 : Int32) (fun x10 => L_X11_hearing_4 F x1 k38 n w x9 x10)))))
set_option maxRecDepth 100000 in
set_option maxHeartbeats 4000000 in
theorem sL_X11_hearing_4 {X : Cx} {S : Sx} {r : Int32 × Wd} {F : Nat} {x1 : Int32} {k38 : Wd → Int32 → Option (Int32 × Wd)} (hX : Ok X S cX11_hearing RX11 4 rm_X11_hearing) (hR : HRt X S cX11_hearing .int r)  (hk38 : ∀ (w : Wd) (x4 : Int32) , k38 w x4 = some r → V X S w 38 [(2, .int x4)] []) : ∀ (n : Nat) (w : Wd) (x2 : Int32) (x3 : Int32) , L_X11_hearing_4 F x1 k38 n w x2 x3 = some r → V X S w 4 [(0, rf S 88), (1, .int x1), (2, .int x2), (3, .int x3)] [] := by
  intro n
  induction n with
  | zero =>
    intro w x2 x3  hP
    exact nn hP
  | succ n ih =>
    intro w x2 x3  hP
    rw [L_X11_hearing_4] at hP
    refine V_iload_n hX dX11_hearing_4 3 rfl ?_
    refine V_aload_n hX dX11_hearing_5 0 rfl ?_
    refine V_getI hX fk_X11_202 tb_88 (fun _ _ _ => rfl) dX11_hearing_6 ?_
    refine V_icmp_ge (tgt := 38) hX dX11_hearing_9 (by decide) (fun hc5 => ?_) (fun hc5 => ?_)
    · replace hP := ite_t hc5 hP
      refine V_sub (lv' := [(2, .int x2)]) [2] rfl ?_
      exact hk38 _ _  hP
    · replace hP := ite_f hc5 hP
      refine V_iload_n hX dX11_hearing_12 2 rfl ?_
      refine V_aload_n hX dX11_hearing_13 0 rfl ?_
      refine V_getF (j := 92) hX fk_X11_20 tb_88 (fun _ _ _ => rfl) dX11_hearing_14 ?_
      refine V_iload_n hX dX11_hearing_17 3 rfl ?_
      obtain ⟨hi6, hP⟩ := gd_e hP
      refine V_iald hX tb_92 hi6 dX11_hearing_18 ?_
      refine V_iload_n hX dX11_hearing_19 1 rfl ?_
      have k11 : V X S w 30 [(0, rf S 88), (1, .int x1), (2, .int x2), (3, .int x3)] [.int (if x1 < (gI w 92 x3.toNatClampNeg) then 0 else ishlI 1 x3), .int x2] := by
        refine V_topi (fun x8 ex8 => ?_)
        replace hP := lt_r ex8 hP
        refine V_ior hX dX11_hearing_30 ?_
        refine V_topi (fun x9 ex9 => ?_)
        replace hP := lt_r ex9 hP
        refine V_istore_n (lv' := [(2, .int x9), (0, rf S 88), (1, .int x1), (3, .int x3)]) hX dX11_hearing_31 (by decide) rfl ?_
        obtain ⟨x10, ex10⟩ : ∃ y : Int32, y = x3 + 1 := ⟨_, rfl⟩
        replace hP := lt_r ex10 hP
        refine V_iinc (v := x10) (lv' := [(3, .int x10), (2, .int x9), (0, rf S 88), (1, .int x1)]) hX dX11_hearing_32 (j := 3) rfl (by decide) (by rw [ex10]; rfl) rfl ?_
        refine V_goto (tgt := 4) hX dX11_hearing_35 (by decide) ?_
        refine V_sub (lv' := [(0, rf S 88), (1, .int x1), (2, .int x9), (3, .int x10)]) [2, 3, 1, 0] rfl ?_
        exact ih _ _ _  hP
      refine V_icmp_gt (tgt := 29) hX dX11_hearing_20 (by decide) (fun hc7 => ?_) (fun hc7 => ?_)
      · refine V_iconst (v := 0) hX dX11_hearing_29 (by decide) ?_
        refine V_selT (c := x1 < (gI w 92 x3.toNatClampNeg)) (b := ishlI 1 x3) hc7 ?_
        exact k11
      · refine V_iconst (v := 1) hX dX11_hearing_23 (by decide) ?_
        refine V_iload_n hX dX11_hearing_24 3 rfl ?_
        refine V_ishl hX dX11_hearing_25 ?_
        refine V_goto (tgt := 30) hX dX11_hearing_26 (by decide) ?_
        refine V_selF (c := x1 < (gI w 92 x3.toNatClampNeg)) (a := 0) hc7 ?_
        exact k11
def P_X11_hearing (F : Nat) (w : Wd) (x1 : Int32) : Option (Int32 × Wd) := L_X11_hearing_4 F x1 (fun w x4 => some (x4, w)) F w 0 0
set_option maxRecDepth 100000 in
set_option maxHeartbeats 4000000 in
theorem s_X11_hearing {X : Cx} {S : Sx} {r : Int32 × Wd} {F : Nat} {w : Wd} {x1 : Int32}  (hX : Ok X S cX11_hearing RX11 4 rm_X11_hearing) (hR : HRt X S cX11_hearing .int r) (hP : P_X11_hearing F w x1 = some r) : V X S w 0 [(0, rf S 88), (1, .int x1)] [] := by
  unfold P_X11_hearing at hP
  refine V_iconst (v := 0) hX dX11_hearing_0 (by decide) ?_
  refine V_istore_n (lv' := [(2, .int 0), (0, rf S 88), (1, .int x1)]) hX dX11_hearing_1 (by decide) rfl ?_
  refine V_iconst (v := 0) hX dX11_hearing_2 (by decide) ?_
  refine V_istore_n (lv' := [(3, .int 0), (2, .int 0), (0, rf S 88), (1, .int x1)]) hX dX11_hearing_3 (by decide) rfl ?_
  refine V_sub (lv' := [(0, rf S 88), (1, .int x1), (2, .int 0), (3, .int 0)]) [2, 3, 1, 0] rfl ?_
  have k12 : ∀ (w : Wd) (x4 : Int32) , (some (x4, w)) = some r → V X S w 38 [(2, .int x4)] [] := by
    intro w x4  hP
    refine V_iload_n hX dX11_hearing_38 0 rfl ?_
    exact hR _ _ _ _ (Option.some.inj hP) rfl dX11_hearing_39
  exact sL_X11_hearing_4 hX hR  k12 F _ _ _  hP
theorem c_X11_hearing (l : Launch) (S : Sx) {r : Int32 × Wd} {F : Nat} {w : Wd} {x1 : Int32}  (h : P_X11_hearing F w x1 = some r) : Met l yX11_hearing (wsg yX11_hearing cX11_hearing 4 (some .int)) rm_X11_hearing (PC S w [rf S 88, .int x1]) (QCi S r) 0 0 (Aw S) :=
  met_i (by decide) rfl (Nat.le_of_ble_eq_true rfl) ⟨rfl, rfl⟩ (fun X hX hR => s_X11_hearing  hX hR h)

-- MustNotStopModel.doubts(I)I
abbrev rm_X11_doubts : Room := { frames := 3, cells := 0, slots := 0, locals := 109 }
theorem nk_X11_doubts : MNk yX11_doubts RX11 1 := ⟨rfl, by decide, by decide, by decide +kernel⟩
def P_X11_doubts (F : Nat) (w : Wd) (x1 : Int32) : Option (Int32 × Wd) := lt (sI w 88 0 0) (fun w2 => bnd (P_X11_in F w2 (Int32.toInt64 x1) 0 9) (fun x4 w3 => (if x4 = 0 then some ((-1), w3) else gd (inB 15 16) (bnd (P_X11_hearing F w3 x1) (fun x8 w7 => bnd (P_X11_spreads F w7 ((gI w3 95 15) ||| x8)) (fun x10 w9 => lt (sI w9 88 1 0) (fun w11 => bnd (P_J6_bitCount_0f7a4 F w11 x10) (fun x13 w12 => bnv (P_X11_enters F w12 (Int32.toInt64 x13)) (fun w14 => bnd (P_X11_hearing F w14 x1) (fun x16 w15 => bnd (P_J6_bitCount_0f7a4 F w15 (x10 &&& x16)) (fun x18 w17 => bnv (P_X11_enters F w17 (Int32.toInt64 x18)) (fun w19 => some (x10, w19)))))))))))))
set_option maxRecDepth 100000 in
set_option maxHeartbeats 4000000 in
theorem s_X11_doubts {X : Cx} {S : Sx} {r : Int32 × Wd} {F : Nat} {w : Wd} {x1 : Int32}  (hX : Ok X S cX11_doubts RX11 3 rm_X11_doubts) (hR : HRt X S cX11_doubts .int r) (hP : P_X11_doubts F w x1 = some r) : V X S w 0 [(0, rf S 88), (1, .int x1)] [] := by
  unfold P_X11_doubts at hP
  refine V_aload_n hX dX11_doubts_0 0 rfl ?_
  refine V_iconst (v := 0) hX dX11_doubts_1 (by decide) ?_
  refine V_putI hX fw_X11_102 tb_88 (fun _ _ _ => ⟨Nat.le_of_ble_eq_true rfl, rfl⟩) dX11_doubts_2 (fun w2 ew2 => ?_)
  replace hP := lt_r ew2 hP
  refine V_iload_n hX dX11_doubts_5 1 rfl ?_
  refine V_i2l hX dX11_doubts_6 ?_
  refine V_lconst (v := 0) hX dX11_doubts_7 rfl ?_
  refine V_ldc2 (v := 9) hX dX11_doubts_8 cn_X11_276 ?_
  obtain ⟨x4, w3, hcw3, hP⟩ := bnd_e hP
  refine V_callSi (As := [.long (Int32.toInt64 x1), .long 0, .long 9]) (rest := []) hX mk_X11_116 nk_X11_in (fun l => c_X11_in l S  hcw3) ⟨rfl, rfl, Nat.le_of_ble_eq_true rfl, Nat.le_of_ble_eq_true rfl⟩ rfl rfl (Nat.le_of_ble_eq_true rfl) dX11_doubts_11 ?_
  refine V_if_ne (tgt := 19) hX dX11_doubts_14 (by decide) (fun hc5 => ?_) (fun hc5 => ?_)
  · replace hP := ite_f hc5 hP
    refine V_aload_n hX dX11_doubts_19 0 rfl ?_
    refine V_aload_n hX dX11_doubts_20 0 rfl ?_
    refine V_getF (j := 95) hX fk_X11_29 tb_88 (fun _ _ _ => rfl) dX11_doubts_21 ?_
    refine V_bipush (v := 15) hX dX11_doubts_24 (by decide) ?_
    obtain ⟨hi6, hP⟩ := gd_e hP
    refine V_iald hX tb_95 hi6 dX11_doubts_26 ?_
    refine V_aload_n hX dX11_doubts_27 0 rfl ?_
    refine V_iload_n hX dX11_doubts_28 1 rfl ?_
    obtain ⟨x8, w7, hcw7, hP⟩ := bnd_e hP
    refine V_callVi (As := [.int x1]) (rest := [.int (gI w3 95 15), rf S 88]) hX mk_X11_375 nk_X11_hearing (fun l => c_X11_hearing l S  hcw7) tb_88 rfl ⟨rfl, rfl, Nat.le_of_ble_eq_true rfl, Nat.le_of_ble_eq_true rfl⟩ rfl rfl (Nat.le_of_ble_eq_true rfl) dX11_doubts_29 ?_
    refine V_ior hX dX11_doubts_32 ?_
    obtain ⟨x10, w9, hcw9, hP⟩ := bnd_e hP
    refine V_callVi (As := [.int ((gI w3 95 15) ||| x8)]) (rest := []) hX mk_X11_378 nk_X11_spreads (fun l => c_X11_spreads l S  hcw9) tb_88 rfl ⟨rfl, rfl, Nat.le_of_ble_eq_true rfl, Nat.le_of_ble_eq_true rfl⟩ rfl rfl (Nat.le_of_ble_eq_true rfl) dX11_doubts_33 ?_
    refine V_istore_n (lv' := [(2, .int x10), (0, rf S 88), (1, .int x1)]) hX dX11_doubts_36 (by decide) rfl ?_
    refine V_aload_n hX dX11_doubts_37 1 rfl ?_
    refine V_iconst (v := 0) hX dX11_doubts_38 (by decide) ?_
    refine V_putI hX fw_X11_110 tb_88 (fun _ _ _ => ⟨Nat.le_of_ble_eq_true rfl, rfl⟩) dX11_doubts_39 (fun w11 ew11 => ?_)
    replace hP := lt_r ew11 hP
    refine V_aload_n hX dX11_doubts_42 1 rfl ?_
    refine V_iload_n hX dX11_doubts_43 0 rfl ?_
    obtain ⟨x13, w12, hcw12, hP⟩ := bnd_e hP
    refine V_callSi (As := [.int x10]) (rest := [rf S 88]) hX mk_X11_248 nk_J6_bitCount_0f7a4 (fun l => c_J6_bitCount_0f7a4 l S  hcw12) ⟨rfl, rfl, Nat.le_of_ble_eq_true rfl, Nat.le_of_ble_eq_true rfl⟩ rfl rfl (Nat.le_of_ble_eq_true rfl) dX11_doubts_44 ?_
    refine V_i2l hX dX11_doubts_47 ?_
    obtain ⟨w14, hcw14, hP⟩ := bnv_e hP
    refine V_callVv (As := [.long (Int32.toInt64 x13)]) (rest := []) hX mk_X11_316 nk_X11_enters (fun l => c_X11_enters l S  hcw14) tb_88 rfl ⟨rfl, rfl, Nat.le_of_ble_eq_true rfl, Nat.le_of_ble_eq_true rfl⟩ rfl rfl (Nat.le_of_ble_eq_true rfl) dX11_doubts_48 ?_
    refine V_aload_n hX dX11_doubts_51 1 rfl ?_
    refine V_iload_n hX dX11_doubts_52 0 rfl ?_
    refine V_aload_n hX dX11_doubts_53 1 rfl ?_
    refine V_iload_n hX dX11_doubts_54 2 rfl ?_
    obtain ⟨x16, w15, hcw15, hP⟩ := bnd_e hP
    refine V_callVi (As := [.int x1]) (rest := [.int x10, rf S 88]) hX mk_X11_375 nk_X11_hearing (fun l => c_X11_hearing l S  hcw15) tb_88 rfl ⟨rfl, rfl, Nat.le_of_ble_eq_true rfl, Nat.le_of_ble_eq_true rfl⟩ rfl rfl (Nat.le_of_ble_eq_true rfl) dX11_doubts_55 ?_
    refine V_iand hX dX11_doubts_58 ?_
    obtain ⟨x18, w17, hcw17, hP⟩ := bnd_e hP
    refine V_callSi (As := [.int (x10 &&& x16)]) (rest := [rf S 88]) hX mk_X11_248 nk_J6_bitCount_0f7a4 (fun l => c_J6_bitCount_0f7a4 l S  hcw17) ⟨rfl, rfl, Nat.le_of_ble_eq_true rfl, Nat.le_of_ble_eq_true rfl⟩ rfl rfl (Nat.le_of_ble_eq_true rfl) dX11_doubts_59 ?_
    refine V_i2l hX dX11_doubts_62 ?_
    obtain ⟨w19, hcw19, hP⟩ := bnv_e hP
    refine V_callVv (As := [.long (Int32.toInt64 x18)]) (rest := []) hX mk_X11_316 nk_X11_enters (fun l => c_X11_enters l S  hcw19) tb_88 rfl ⟨rfl, rfl, Nat.le_of_ble_eq_true rfl, Nat.le_of_ble_eq_true rfl⟩ rfl rfl (Nat.le_of_ble_eq_true rfl) dX11_doubts_63 ?_
    refine V_iload_n hX dX11_doubts_66 0 rfl ?_
    exact hR _ _ _ _ (Option.some.inj hP) rfl dX11_doubts_67
  · replace hP := ite_t hc5 hP
    refine V_iconst (v := (-1)) hX dX11_doubts_17 (by decide) ?_
    exact hR _ _ _ _ (Option.some.inj hP) rfl dX11_doubts_18
theorem c_X11_doubts (l : Launch) (S : Sx) {r : Int32 × Wd} {F : Nat} {w : Wd} {x1 : Int32}  (h : P_X11_doubts F w x1 = some r) : Met l yX11_doubts (wsg yX11_doubts cX11_doubts 3 (some .int)) rm_X11_doubts (PC S w [rf S 88, .int x1]) (QCi S r) 0 0 (Aw S) :=
  met_i (by decide) rfl (Nat.le_of_ble_eq_true rfl) ⟨rfl, rfl⟩ (fun X hX hR => s_X11_doubts  hX hR h)

-- MustNotStopModel.frees()I
abbrev rm_X11_frees : Room := { frames := 3, cells := 0, slots := 0, locals := 109 }
theorem nk_X11_frees : MNk yX11_frees RX11 0 := ⟨rfl, by decide, by decide, by decide +kernel⟩
def L_X11_frees_7 (F : Nat)  (k45 : Wd → Option (Int32 × Wd)) : Nat → Wd → Int32 → Option (Int32 × Wd)
  | 0, _, _ => none
  | n + 1, w, x2 => (if (9 : Int32) < x2 then k45 w  else gd (inB 15 16) (bnd (P_X11_hearing F w x2) (fun x6 w5 => bnd (P_X11_spreads F w5 ((gI w 95 15) ||| x6)) (fun x8 w7 => bnd (P_X11_allPeople F w7 ) (fun x10 w9 => (if x8 = x10 then some (x2, w9) else lt (x2 + 1 : Int32) (fun x12 => L_X11_frees_7 F  k45 n w9 x12)))))))
set_option maxRecDepth 100000 in
set_option maxHeartbeats 4000000 in
theorem sL_X11_frees_7 {X : Cx} {S : Sx} {r : Int32 × Wd} {F : Nat}  {k45 : Wd → Option (Int32 × Wd)} (hX : Ok X S cX11_frees RX11 2 rm_X11_frees) (hR : HRt X S cX11_frees .int r)  (hk45 : ∀ (w : Wd), k45 w = some r → V X S w 45 [] []) : ∀ (n : Nat) (w : Wd) (x2 : Int32) , L_X11_frees_7 F  k45 n w x2 = some r → V X S w 7 [(0, rf S 88), (1, .int x2)] [] := by
  intro n
  induction n with
  | zero =>
    intro w x2  hP
    exact nn hP
  | succ n ih =>
    intro w x2  hP
    rw [L_X11_frees_7] at hP
    refine V_iload_n hX dX11_frees_7 1 rfl ?_
    refine V_bipush (v := 9) hX dX11_frees_8 (by decide) ?_
    refine V_icmp_gt (tgt := 45) hX dX11_frees_10 (by decide) (fun hc3 => ?_) (fun hc3 => ?_)
    · replace hP := ite_t hc3 hP
      refine V_sub (lv' := []) [] rfl ?_
      exact hk45 _   hP
    · replace hP := ite_f hc3 hP
      refine V_aload_n hX dX11_frees_13 0 rfl ?_
      refine V_aload_n hX dX11_frees_14 0 rfl ?_
      refine V_getF (j := 95) hX fk_X11_29 tb_88 (fun _ _ _ => rfl) dX11_frees_15 ?_
      refine V_bipush (v := 15) hX dX11_frees_18 (by decide) ?_
      obtain ⟨hi4, hP⟩ := gd_e hP
      refine V_iald hX tb_95 hi4 dX11_frees_20 ?_
      refine V_aload_n hX dX11_frees_21 0 rfl ?_
      refine V_iload_n hX dX11_frees_22 1 rfl ?_
      obtain ⟨x6, w5, hcw5, hP⟩ := bnd_e hP
      refine V_callVi (As := [.int x2]) (rest := [.int (gI w 95 15), rf S 88]) hX mk_X11_375 nk_X11_hearing (fun l => c_X11_hearing l S  hcw5) tb_88 rfl ⟨rfl, rfl, Nat.le_of_ble_eq_true rfl, Nat.le_of_ble_eq_true rfl⟩ rfl rfl (Nat.le_of_ble_eq_true rfl) dX11_frees_23 ?_
      refine V_ior hX dX11_frees_26 ?_
      obtain ⟨x8, w7, hcw7, hP⟩ := bnd_e hP
      refine V_callVi (As := [.int ((gI w 95 15) ||| x6)]) (rest := []) hX mk_X11_378 nk_X11_spreads (fun l => c_X11_spreads l S  hcw7) tb_88 rfl ⟨rfl, rfl, Nat.le_of_ble_eq_true rfl, Nat.le_of_ble_eq_true rfl⟩ rfl rfl (Nat.le_of_ble_eq_true rfl) dX11_frees_27 ?_
      refine V_aload_n hX dX11_frees_30 0 rfl ?_
      obtain ⟨x10, w9, hcw9, hP⟩ := bnd_e hP
      refine V_callVi (As := []) (rest := [.int x8]) hX mk_X11_381 nk_X11_allPeople (fun l => c_X11_allPeople l S  hcw9) tb_88 rfl ⟨rfl, rfl, Nat.le_of_ble_eq_true rfl, Nat.le_of_ble_eq_true rfl⟩ rfl rfl (Nat.le_of_ble_eq_true rfl) dX11_frees_31 ?_
      refine V_icmp_ne (tgt := 39) hX dX11_frees_34 (by decide) (fun hc11 => ?_) (fun hc11 => ?_)
      · replace hP := ite_f hc11 hP
        obtain ⟨x12, ex12⟩ : ∃ y : Int32, y = x2 + 1 := ⟨_, rfl⟩
        replace hP := lt_r ex12 hP
        refine V_iinc (v := x12) (lv' := [(1, .int x12), (0, rf S 88)]) hX dX11_frees_39 (j := 1) rfl (by decide) (by rw [ex12]; rfl) rfl ?_
        refine V_goto (tgt := 7) hX dX11_frees_42 (by decide) ?_
        refine V_sub (lv' := [(0, rf S 88), (1, .int x12)]) [1, 0] rfl ?_
        exact ih _ _  hP
      · replace hP := ite_t hc11 hP
        refine V_iload_n hX dX11_frees_37 1 rfl ?_
        exact hR _ _ _ _ (Option.some.inj hP) rfl dX11_frees_38
def P_X11_frees (F : Nat) (w : Wd)  : Option (Int32 × Wd) := lt (sI w 88 0 0) (fun w1 => L_X11_frees_7 F  (fun w  => some ((-2), w)) F w1 0)
set_option maxRecDepth 100000 in
set_option maxHeartbeats 4000000 in
theorem s_X11_frees {X : Cx} {S : Sx} {r : Int32 × Wd} {F : Nat} {w : Wd}   (hX : Ok X S cX11_frees RX11 2 rm_X11_frees) (hR : HRt X S cX11_frees .int r) (hP : P_X11_frees F w  = some r) : V X S w 0 [(0, rf S 88)] [] := by
  unfold P_X11_frees at hP
  refine V_aload_n hX dX11_frees_0 0 rfl ?_
  refine V_iconst (v := 0) hX dX11_frees_1 (by decide) ?_
  refine V_putI hX fw_X11_102 tb_88 (fun _ _ _ => ⟨Nat.le_of_ble_eq_true rfl, rfl⟩) dX11_frees_2 (fun w1 ew1 => ?_)
  replace hP := lt_r ew1 hP
  refine V_iconst (v := 0) hX dX11_frees_5 (by decide) ?_
  refine V_istore_n (lv' := [(1, .int 0), (0, rf S 88)]) hX dX11_frees_6 (by decide) rfl ?_
  refine V_sub (lv' := [(0, rf S 88), (1, .int 0)]) [1, 0] rfl ?_
  have k13 : ∀ (w : Wd)  , (some ((-2), w)) = some r → V X S w 45 [] [] := by
    intro w   hP
    refine V_bipush (v := (-2)) hX dX11_frees_45 (by decide) ?_
    exact hR _ _ _ _ (Option.some.inj hP) rfl dX11_frees_47
  exact sL_X11_frees_7 hX hR  k13 F _ _  hP
theorem c_X11_frees (l : Launch) (S : Sx) {r : Int32 × Wd} {F : Nat} {w : Wd}   (h : P_X11_frees F w  = some r) : Met l yX11_frees (wsg yX11_frees cX11_frees 2 (some .int)) rm_X11_frees (PC S w [rf S 88]) (QCi S r) 0 0 (Aw S) :=
  met_i (by decide) rfl (Nat.le_of_ble_eq_true rfl) ⟨rfl, rfl⟩ (fun X hX hR => s_X11_frees  hX hR h)

-- MustNotStopModel.persuade()I
abbrev rm_X11_persuade : Room := { frames := 3, cells := 0, slots := 0, locals := 109 }
theorem nk_X11_persuade : MNk yX11_persuade RX11 0 := ⟨rfl, by decide, by decide, by decide +kernel⟩
def K_X11_persuade_67 (F : Nat)  (k74 : Wd → Int32 → Option (Int32 × Wd)) (rc : Wd → Int32 → Int32 → Option (Int32 × Wd)) (w : Wd) (x17 : Int32) (x18 : Int32) : Option (Int32 × Wd) := lt (x17 + 1 : Int32) (fun x19 => rc w x18 x19)
set_option maxRecDepth 100000 in
set_option maxHeartbeats 4000000 in
theorem sK_X11_persuade_67 {X : Cx} {S : Sx} {r : Int32 × Wd} {F : Nat}  {k74 : Wd → Int32 → Option (Int32 × Wd)} {rc : Wd → Int32 → Int32 → Option (Int32 × Wd)} {w : Wd} {x17 : Int32} {x18 : Int32} (hX : Ok X S cX11_persuade RX11 4 rm_X11_persuade) (hR : HRt X S cX11_persuade .int r)  (hk74 : ∀ (w : Wd) (x4 : Int32) , k74 w x4 = some r → V X S w 74 [(0, rf S 88), (1, .int x4)] []) (hrc : ∀ (w : Wd) (x2 : Int32) (x3 : Int32) , rc w x2 x3 = some r → V X S w 9 [(0, rf S 88), (1, .int x2), (2, .int x3)] [])  (hP : K_X11_persuade_67 F  k74 rc w x17 x18 = some r) : V X S w 67 [(0, rf S 88), (2, .int x17)] [.int x18] := by
  unfold K_X11_persuade_67 at hP
  refine V_istore_n (lv' := [(1, .int x18), (0, rf S 88), (2, .int x17)]) hX dX11_persuade_67 (by decide) rfl ?_
  obtain ⟨x19, ex19⟩ : ∃ y : Int32, y = x17 + 1 := ⟨_, rfl⟩
  replace hP := lt_r ex19 hP
  refine V_iinc (v := x19) (lv' := [(2, .int x19), (1, .int x18), (0, rf S 88)]) hX dX11_persuade_68 (j := 2) rfl (by decide) (by rw [ex19]; rfl) rfl ?_
  refine V_goto (tgt := 9) hX dX11_persuade_71 (by decide) ?_
  refine V_sub (lv' := [(0, rf S 88), (1, .int x18), (2, .int x19)]) [2, 1, 0] rfl ?_
  exact hrc _ _ _  hP
def K_X11_persuade_66 (F : Nat)  (k74 : Wd → Int32 → Option (Int32 × Wd)) (rc : Wd → Int32 → Int32 → Option (Int32 × Wd)) (w : Wd) (x15 : Int32) (x16 : Int32) : Option (Int32 × Wd) := K_X11_persuade_67 F  k74 rc w x16 x15
set_option maxRecDepth 100000 in
set_option maxHeartbeats 4000000 in
theorem sK_X11_persuade_66 {X : Cx} {S : Sx} {r : Int32 × Wd} {F : Nat}  {k74 : Wd → Int32 → Option (Int32 × Wd)} {rc : Wd → Int32 → Int32 → Option (Int32 × Wd)} {w : Wd} {x15 : Int32} {x16 : Int32} (hX : Ok X S cX11_persuade RX11 4 rm_X11_persuade) (hR : HRt X S cX11_persuade .int r)  (hk74 : ∀ (w : Wd) (x4 : Int32) , k74 w x4 = some r → V X S w 74 [(0, rf S 88), (1, .int x4)] []) (hrc : ∀ (w : Wd) (x2 : Int32) (x3 : Int32) , rc w x2 x3 = some r → V X S w 9 [(0, rf S 88), (1, .int x2), (2, .int x3)] [])  (hP : K_X11_persuade_66 F  k74 rc w x15 x16 = some r) : V X S w 66 [(0, rf S 88), (1, .int x15), (2, .int x16)] [] := by
  unfold K_X11_persuade_66 at hP
  refine V_iload_n hX dX11_persuade_66 1 rfl ?_
  refine V_sub (lv' := [(0, rf S 88), (2, .int x16)]) [0, 2] rfl ?_
  exact sK_X11_persuade_67 hX hR  hk74 hrc  hP
def K_X11_persuade_37 (F : Nat)  (k74 : Wd → Int32 → Option (Int32 × Wd)) (rc : Wd → Int32 → Int32 → Option (Int32 × Wd)) (w : Wd) (x11 : Int32) (x12 : Int32) (x13 : Int32) : Option (Int32 × Wd) := (if x13 = 0 then K_X11_persuade_66 F  k74 rc w x11 x12 else gd (inB 15 16) (bnd (P_X11_spreads F w ((gI w 95 15) ||| x12)) (fun x22 w21 => bnd (P_X11_allPeople F w21 ) (fun x24 w23 => lt (if x22 = x24 then x12 else x11 : Int32) (fun x26 => lt (x12 + 1 : Int32) (fun x27 => rc w23 x26 x27))))))
set_option maxRecDepth 100000 in
set_option maxHeartbeats 4000000 in
theorem sK_X11_persuade_37 {X : Cx} {S : Sx} {r : Int32 × Wd} {F : Nat}  {k74 : Wd → Int32 → Option (Int32 × Wd)} {rc : Wd → Int32 → Int32 → Option (Int32 × Wd)} {w : Wd} {x11 : Int32} {x12 : Int32} {x13 : Int32} (hX : Ok X S cX11_persuade RX11 4 rm_X11_persuade) (hR : HRt X S cX11_persuade .int r)  (hk74 : ∀ (w : Wd) (x4 : Int32) , k74 w x4 = some r → V X S w 74 [(0, rf S 88), (1, .int x4)] []) (hrc : ∀ (w : Wd) (x2 : Int32) (x3 : Int32) , rc w x2 x3 = some r → V X S w 9 [(0, rf S 88), (1, .int x2), (2, .int x3)] [])  (hP : K_X11_persuade_37 F  k74 rc w x11 x12 x13 = some r) : V X S w 37 [(0, rf S 88), (1, .int x11), (2, .int x12)] [.int x13] := by
  unfold K_X11_persuade_37 at hP
  refine V_istore_n (lv' := [(3, .int x13), (0, rf S 88), (1, .int x11), (2, .int x12)]) hX dX11_persuade_37 (by decide) rfl ?_
  refine V_iload_n hX dX11_persuade_38 0 rfl ?_
  refine V_if_eq (tgt := 66) hX dX11_persuade_39 (by decide) (fun hc14 => ?_) (fun hc14 => ?_)
  · replace hP := ite_t hc14 hP
    refine V_sub (lv' := [(0, rf S 88), (1, .int x11), (2, .int x12)]) [1, 2, 3] rfl ?_
    exact sK_X11_persuade_66 hX hR  hk74 hrc  hP
  · replace hP := ite_f hc14 hP
    refine V_aload_n hX dX11_persuade_42 1 rfl ?_
    refine V_aload_n hX dX11_persuade_43 1 rfl ?_
    refine V_getF (j := 95) hX fk_X11_29 tb_88 (fun _ _ _ => rfl) dX11_persuade_44 ?_
    refine V_bipush (v := 15) hX dX11_persuade_47 (by decide) ?_
    obtain ⟨hi20, hP⟩ := gd_e hP
    refine V_iald hX tb_95 hi20 dX11_persuade_49 ?_
    refine V_iload_n hX dX11_persuade_50 3 rfl ?_
    refine V_ior hX dX11_persuade_51 ?_
    obtain ⟨x22, w21, hcw21, hP⟩ := bnd_e hP
    refine V_callVi (As := [.int ((gI w 95 15) ||| x12)]) (rest := []) hX mk_X11_378 nk_X11_spreads (fun l => c_X11_spreads l S  hcw21) tb_88 rfl ⟨rfl, rfl, Nat.le_of_ble_eq_true rfl, Nat.le_of_ble_eq_true rfl⟩ rfl rfl (Nat.le_of_ble_eq_true rfl) dX11_persuade_52 ?_
    refine V_aload_n hX dX11_persuade_55 1 rfl ?_
    obtain ⟨x24, w23, hcw23, hP⟩ := bnd_e hP
    refine V_callVi (As := []) (rest := [.int x22]) hX mk_X11_381 nk_X11_allPeople (fun l => c_X11_allPeople l S  hcw23) tb_88 rfl ⟨rfl, rfl, Nat.le_of_ble_eq_true rfl, Nat.le_of_ble_eq_true rfl⟩ rfl rfl (Nat.le_of_ble_eq_true rfl) dX11_persuade_56 ?_
    have k28 : V X S w23 67 [(3, .int x13), (0, rf S 88), (1, .int x11), (2, .int x12)] [.int (if x22 = x24 then x12 else x11)] := by
      refine V_topi (fun x26 ex26 => ?_)
      replace hP := lt_r ex26 hP
      refine V_istore_n (lv' := [(1, .int x26), (3, .int x13), (0, rf S 88), (2, .int x12)]) hX dX11_persuade_67 (by decide) rfl ?_
      obtain ⟨x27, ex27⟩ : ∃ y : Int32, y = x12 + 1 := ⟨_, rfl⟩
      replace hP := lt_r ex27 hP
      refine V_iinc (v := x27) (lv' := [(2, .int x27), (1, .int x26), (3, .int x13), (0, rf S 88)]) hX dX11_persuade_68 (j := 3) rfl (by decide) (by rw [ex27]; rfl) rfl ?_
      refine V_goto (tgt := 9) hX dX11_persuade_71 (by decide) ?_
      refine V_sub (lv' := [(0, rf S 88), (1, .int x26), (2, .int x27)]) [3, 1, 0] rfl ?_
      exact hrc _ _ _  hP
    refine V_icmp_ne (tgt := 66) hX dX11_persuade_59 (by decide) (fun hc25 => ?_) (fun hc25 => ?_)
    · refine V_iload_n hX dX11_persuade_66 2 rfl ?_
      refine V_selF (c := x22 = x24) (a := x12) hc25 ?_
      exact k28
    · refine V_iload_n hX dX11_persuade_62 3 rfl ?_
      refine V_goto (tgt := 67) hX dX11_persuade_63 (by decide) ?_
      refine V_selT (c := x22 = x24) (b := x11) hc25 ?_
      exact k28
def K_X11_persuade_32 (F : Nat)  (k74 : Wd → Int32 → Option (Int32 × Wd)) (rc : Wd → Int32 → Int32 → Option (Int32 × Wd)) (w : Wd) (x9 : Int32) (x10 : Int32) : Option (Int32 × Wd) := K_X11_persuade_37 F  k74 rc w x9 x10 1
set_option maxRecDepth 100000 in
set_option maxHeartbeats 4000000 in
theorem sK_X11_persuade_32 {X : Cx} {S : Sx} {r : Int32 × Wd} {F : Nat}  {k74 : Wd → Int32 → Option (Int32 × Wd)} {rc : Wd → Int32 → Int32 → Option (Int32 × Wd)} {w : Wd} {x9 : Int32} {x10 : Int32} (hX : Ok X S cX11_persuade RX11 4 rm_X11_persuade) (hR : HRt X S cX11_persuade .int r)  (hk74 : ∀ (w : Wd) (x4 : Int32) , k74 w x4 = some r → V X S w 74 [(0, rf S 88), (1, .int x4)] []) (hrc : ∀ (w : Wd) (x2 : Int32) (x3 : Int32) , rc w x2 x3 = some r → V X S w 9 [(0, rf S 88), (1, .int x2), (2, .int x3)] [])  (hP : K_X11_persuade_32 F  k74 rc w x9 x10 = some r) : V X S w 32 [(0, rf S 88), (1, .int x9), (2, .int x10)] [] := by
  unfold K_X11_persuade_32 at hP
  refine V_iconst (v := 1) hX dX11_persuade_32 (by decide) ?_
  refine V_goto (tgt := 37) hX dX11_persuade_33 (by decide) ?_
  exact sK_X11_persuade_37 hX hR  hk74 hrc  hP
def L_X11_persuade_9 (F : Nat)  (k74 : Wd → Int32 → Option (Int32 × Wd)) : Nat → Wd → Int32 → Int32 → Option (Int32 × Wd)
  | 0, _, _, _ => none
  | n + 1, w, x2, x3 => bnd (P_X11_allPeople F w ) (fun x6 w5 => (if x6 < x3 then k74 w5 x2 else (if x2 < 0 then K_X11_persuade_32 F  k74 ((L_X11_persuade_9 F  k74 n)) w5 x2 x3 else bnd (P_J6_bitCount_0f7a4 F w5 x3) (fun x30 w29 => bnd (P_J6_bitCount_0f7a4 F w29 x2) (fun x32 w31 => lt (if x32 ≤ x30 then 0 else 1 : Int32) (fun x34 => (if x34 = 0 then K_X11_persuade_66 F  k74 ((L_X11_persuade_9 F  k74 n)) w31 x2 x3 else gd (inB 15 16) (bnd (P_X11_spreads F w31 ((gI w31 95 15) ||| x3)) (fun x38 w37 => bnd (P_X11_allPeople F w37 ) (fun x40 w39 => lt (if x38 = x40 then x3 else x2 : Int32) (fun x42 => lt (x3 + 1 : Int32) (fun x43 => L_X11_persuade_9 F  k74 n w39 x42 x43))))))))))))
set_option maxRecDepth 100000 in
set_option maxHeartbeats 4000000 in
theorem sL_X11_persuade_9 {X : Cx} {S : Sx} {r : Int32 × Wd} {F : Nat}  {k74 : Wd → Int32 → Option (Int32 × Wd)} (hX : Ok X S cX11_persuade RX11 4 rm_X11_persuade) (hR : HRt X S cX11_persuade .int r)  (hk74 : ∀ (w : Wd) (x4 : Int32) , k74 w x4 = some r → V X S w 74 [(0, rf S 88), (1, .int x4)] []) : ∀ (n : Nat) (w : Wd) (x2 : Int32) (x3 : Int32) , L_X11_persuade_9 F  k74 n w x2 x3 = some r → V X S w 9 [(0, rf S 88), (1, .int x2), (2, .int x3)] [] := by
  intro n
  induction n with
  | zero =>
    intro w x2 x3  hP
    exact nn hP
  | succ n ih =>
    intro w x2 x3  hP
    rw [L_X11_persuade_9] at hP
    refine V_iload_n hX dX11_persuade_9 2 rfl ?_
    refine V_aload_n hX dX11_persuade_10 0 rfl ?_
    obtain ⟨x6, w5, hcw5, hP⟩ := bnd_e hP
    refine V_callVi (As := []) (rest := [.int x3]) hX mk_X11_381 nk_X11_allPeople (fun l => c_X11_allPeople l S  hcw5) tb_88 rfl ⟨rfl, rfl, Nat.le_of_ble_eq_true rfl, Nat.le_of_ble_eq_true rfl⟩ rfl rfl (Nat.le_of_ble_eq_true rfl) dX11_persuade_11 ?_
    refine V_icmp_gt (tgt := 74) hX dX11_persuade_14 (by decide) (fun hc7 => ?_) (fun hc7 => ?_)
    · replace hP := ite_t hc7 hP
      refine V_sub (lv' := [(0, rf S 88), (1, .int x2)]) [0, 1] rfl ?_
      exact hk74 _ _  hP
    · replace hP := ite_f hc7 hP
      refine V_iload_n hX dX11_persuade_17 1 rfl ?_
      refine V_if_lt (tgt := 32) hX dX11_persuade_18 (by decide) (fun hc8 => ?_) (fun hc8 => ?_)
      · replace hP := ite_t hc8 hP
        exact sK_X11_persuade_32 hX hR  hk74 ih  hP
      · replace hP := ite_f hc8 hP
        refine V_iload_n hX dX11_persuade_21 2 rfl ?_
        obtain ⟨x30, w29, hcw29, hP⟩ := bnd_e hP
        refine V_callSi (As := [.int x3]) (rest := []) hX mk_X11_248 nk_J6_bitCount_0f7a4 (fun l => c_J6_bitCount_0f7a4 l S  hcw29) ⟨rfl, rfl, Nat.le_of_ble_eq_true rfl, Nat.le_of_ble_eq_true rfl⟩ rfl rfl (Nat.le_of_ble_eq_true rfl) dX11_persuade_22 ?_
        refine V_iload_n hX dX11_persuade_25 1 rfl ?_
        obtain ⟨x32, w31, hcw31, hP⟩ := bnd_e hP
        refine V_callSi (As := [.int x2]) (rest := [.int x30]) hX mk_X11_248 nk_J6_bitCount_0f7a4 (fun l => c_J6_bitCount_0f7a4 l S  hcw31) ⟨rfl, rfl, Nat.le_of_ble_eq_true rfl, Nat.le_of_ble_eq_true rfl⟩ rfl rfl (Nat.le_of_ble_eq_true rfl) dX11_persuade_26 ?_
        have k45 : V X S w31 37 [(0, rf S 88), (1, .int x2), (2, .int x3)] [.int (if x32 ≤ x30 then 0 else 1)] := by
          refine V_topi (fun x34 ex34 => ?_)
          replace hP := lt_r ex34 hP
          refine V_istore_n (lv' := [(3, .int x34), (0, rf S 88), (1, .int x2), (2, .int x3)]) hX dX11_persuade_37 (by decide) rfl ?_
          refine V_iload_n hX dX11_persuade_38 0 rfl ?_
          refine V_if_eq (tgt := 66) hX dX11_persuade_39 (by decide) (fun hc35 => ?_) (fun hc35 => ?_)
          · replace hP := ite_t hc35 hP
            refine V_sub (lv' := [(0, rf S 88), (1, .int x2), (2, .int x3)]) [1, 2, 3] rfl ?_
            exact sK_X11_persuade_66 hX hR  hk74 ih  hP
          · replace hP := ite_f hc35 hP
            refine V_aload_n hX dX11_persuade_42 1 rfl ?_
            refine V_aload_n hX dX11_persuade_43 1 rfl ?_
            refine V_getF (j := 95) hX fk_X11_29 tb_88 (fun _ _ _ => rfl) dX11_persuade_44 ?_
            refine V_bipush (v := 15) hX dX11_persuade_47 (by decide) ?_
            obtain ⟨hi36, hP⟩ := gd_e hP
            refine V_iald hX tb_95 hi36 dX11_persuade_49 ?_
            refine V_iload_n hX dX11_persuade_50 3 rfl ?_
            refine V_ior hX dX11_persuade_51 ?_
            obtain ⟨x38, w37, hcw37, hP⟩ := bnd_e hP
            refine V_callVi (As := [.int ((gI w31 95 15) ||| x3)]) (rest := []) hX mk_X11_378 nk_X11_spreads (fun l => c_X11_spreads l S  hcw37) tb_88 rfl ⟨rfl, rfl, Nat.le_of_ble_eq_true rfl, Nat.le_of_ble_eq_true rfl⟩ rfl rfl (Nat.le_of_ble_eq_true rfl) dX11_persuade_52 ?_
            refine V_aload_n hX dX11_persuade_55 1 rfl ?_
            obtain ⟨x40, w39, hcw39, hP⟩ := bnd_e hP
            refine V_callVi (As := []) (rest := [.int x38]) hX mk_X11_381 nk_X11_allPeople (fun l => c_X11_allPeople l S  hcw39) tb_88 rfl ⟨rfl, rfl, Nat.le_of_ble_eq_true rfl, Nat.le_of_ble_eq_true rfl⟩ rfl rfl (Nat.le_of_ble_eq_true rfl) dX11_persuade_56 ?_
            have k44 : V X S w39 67 [(3, .int x34), (0, rf S 88), (1, .int x2), (2, .int x3)] [.int (if x38 = x40 then x3 else x2)] := by
              refine V_topi (fun x42 ex42 => ?_)
              replace hP := lt_r ex42 hP
              refine V_istore_n (lv' := [(1, .int x42), (3, .int x34), (0, rf S 88), (2, .int x3)]) hX dX11_persuade_67 (by decide) rfl ?_
              obtain ⟨x43, ex43⟩ : ∃ y : Int32, y = x3 + 1 := ⟨_, rfl⟩
              replace hP := lt_r ex43 hP
              refine V_iinc (v := x43) (lv' := [(2, .int x43), (1, .int x42), (3, .int x34), (0, rf S 88)]) hX dX11_persuade_68 (j := 3) rfl (by decide) (by rw [ex43]; rfl) rfl ?_
              refine V_goto (tgt := 9) hX dX11_persuade_71 (by decide) ?_
              refine V_sub (lv' := [(0, rf S 88), (1, .int x42), (2, .int x43)]) [3, 1, 0] rfl ?_
              exact ih _ _ _  hP
            refine V_icmp_ne (tgt := 66) hX dX11_persuade_59 (by decide) (fun hc41 => ?_) (fun hc41 => ?_)
            · refine V_iload_n hX dX11_persuade_66 2 rfl ?_
              refine V_selF (c := x38 = x40) (a := x3) hc41 ?_
              exact k44
            · refine V_iload_n hX dX11_persuade_62 3 rfl ?_
              refine V_goto (tgt := 67) hX dX11_persuade_63 (by decide) ?_
              refine V_selT (c := x38 = x40) (b := x2) hc41 ?_
              exact k44
        refine V_icmp_ge (tgt := 36) hX dX11_persuade_29 (by decide) (fun hc33 => ?_) (fun hc33 => ?_)
        · refine V_iconst (v := 0) hX dX11_persuade_36 (by decide) ?_
          refine V_selT (c := x32 ≤ x30) (b := 1) hc33 ?_
          exact k45
        · refine V_iconst (v := 1) hX dX11_persuade_32 (by decide) ?_
          refine V_goto (tgt := 37) hX dX11_persuade_33 (by decide) ?_
          refine V_selF (c := x32 ≤ x30) (a := 0) hc33 ?_
          exact k45
def P_X11_persuade (F : Nat) (w : Wd)  : Option (Int32 × Wd) := lt (sI w 88 0 0) (fun w1 => L_X11_persuade_9 F  (fun w x4 => lt (sI w 88 1 0) (fun w46 => bnv (P_X11_enters F w46 (Int32.toInt64 x4)) (fun w47 => bnd (P_J6_bitCount_0f7a4 F w47 x4) (fun x49 w48 => some (x49, w48))))) F w1 ((-1)) 0)
set_option maxRecDepth 100000 in
set_option maxHeartbeats 4000000 in
theorem s_X11_persuade {X : Cx} {S : Sx} {r : Int32 × Wd} {F : Nat} {w : Wd}   (hX : Ok X S cX11_persuade RX11 4 rm_X11_persuade) (hR : HRt X S cX11_persuade .int r) (hP : P_X11_persuade F w  = some r) : V X S w 0 [(0, rf S 88)] [] := by
  unfold P_X11_persuade at hP
  refine V_aload_n hX dX11_persuade_0 0 rfl ?_
  refine V_iconst (v := 0) hX dX11_persuade_1 (by decide) ?_
  refine V_putI hX fw_X11_102 tb_88 (fun _ _ _ => ⟨Nat.le_of_ble_eq_true rfl, rfl⟩) dX11_persuade_2 (fun w1 ew1 => ?_)
  replace hP := lt_r ew1 hP
  refine V_iconst (v := (-1)) hX dX11_persuade_5 (by decide) ?_
  refine V_istore_n (lv' := [(1, .int ((-1))), (0, rf S 88)]) hX dX11_persuade_6 (by decide) rfl ?_
  refine V_iconst (v := 0) hX dX11_persuade_7 (by decide) ?_
  refine V_istore_n (lv' := [(2, .int 0), (1, .int ((-1))), (0, rf S 88)]) hX dX11_persuade_8 (by decide) rfl ?_
  refine V_sub (lv' := [(0, rf S 88), (1, .int ((-1))), (2, .int 0)]) [2, 1, 0] rfl ?_
  have k50 : ∀ (w : Wd) (x4 : Int32) , (lt (sI w 88 1 0) (fun w46 => bnv (P_X11_enters F w46 (Int32.toInt64 x4)) (fun w47 => bnd (P_J6_bitCount_0f7a4 F w47 x4) (fun x49 w48 => some (x49, w48))))) = some r → V X S w 74 [(0, rf S 88), (1, .int x4)] [] := by
    intro w x4  hP
    refine V_aload_n hX dX11_persuade_74 0 rfl ?_
    refine V_iconst (v := 0) hX dX11_persuade_75 (by decide) ?_
    refine V_putI hX fw_X11_110 tb_88 (fun _ _ _ => ⟨Nat.le_of_ble_eq_true rfl, rfl⟩) dX11_persuade_76 (fun w46 ew46 => ?_)
    replace hP := lt_r ew46 hP
    refine V_aload_n hX dX11_persuade_79 0 rfl ?_
    refine V_iload_n hX dX11_persuade_80 1 rfl ?_
    refine V_i2l hX dX11_persuade_81 ?_
    obtain ⟨w47, hcw47, hP⟩ := bnv_e hP
    refine V_callVv (As := [.long (Int32.toInt64 x4)]) (rest := []) hX mk_X11_316 nk_X11_enters (fun l => c_X11_enters l S  hcw47) tb_88 rfl ⟨rfl, rfl, Nat.le_of_ble_eq_true rfl, Nat.le_of_ble_eq_true rfl⟩ rfl rfl (Nat.le_of_ble_eq_true rfl) dX11_persuade_82 ?_
    refine V_iload_n hX dX11_persuade_85 1 rfl ?_
    obtain ⟨x49, w48, hcw48, hP⟩ := bnd_e hP
    refine V_callSi (As := [.int x4]) (rest := []) hX mk_X11_248 nk_J6_bitCount_0f7a4 (fun l => c_J6_bitCount_0f7a4 l S  hcw48) ⟨rfl, rfl, Nat.le_of_ble_eq_true rfl, Nat.le_of_ble_eq_true rfl⟩ rfl rfl (Nat.le_of_ble_eq_true rfl) dX11_persuade_86 ?_
    exact hR _ _ _ _ (Option.some.inj hP) rfl dX11_persuade_89
  exact sL_X11_persuade_9 hX hR  k50 F _ _ _  hP
theorem c_X11_persuade (l : Launch) (S : Sx) {r : Int32 × Wd} {F : Nat} {w : Wd}   (h : P_X11_persuade F w  = some r) : Met l yX11_persuade (wsg yX11_persuade cX11_persuade 4 (some .int)) rm_X11_persuade (PC S w [rf S 88]) (QCi S r) 0 0 (Aw S) :=
  met_i (by decide) rfl (Nat.le_of_ble_eq_true rfl) ⟨rfl, rfl⟩ (fun X hX hR => s_X11_persuade  hX hR h)

-- MustNotStopModel.firm()I
abbrev rm_X11_firm : Room := { frames := 2, cells := 0, slots := 0, locals := 86 }
theorem nk_X11_firm : MNk yX11_firm RX11 0 := ⟨rfl, by decide, by decide, by decide +kernel⟩
def K_X11_firm_49 (F : Nat)  (k57 : Wd → Int32 → Option (Int32 × Wd)) (rc : Wd → Int32 → Int32 → Option (Int32 × Wd)) (w : Wd) (x10 : Int32) (x11 : Int32) (x12 : Int32) : Option (Int32 × Wd) := lt (x12 ||| x11 : Int32) (fun x13 => lt (x10 + 1 : Int32) (fun x14 => rc w x13 x14))
set_option maxRecDepth 100000 in
set_option maxHeartbeats 4000000 in
theorem sK_X11_firm_49 {X : Cx} {S : Sx} {r : Int32 × Wd} {F : Nat}  {k57 : Wd → Int32 → Option (Int32 × Wd)} {rc : Wd → Int32 → Int32 → Option (Int32 × Wd)} {w : Wd} {x10 : Int32} {x11 : Int32} {x12 : Int32} (hX : Ok X S cX11_firm RX11 3 rm_X11_firm) (hR : HRt X S cX11_firm .int r)  (hk57 : ∀ (w : Wd) (x4 : Int32) , k57 w x4 = some r → V X S w 57 [(0, rf S 88), (1, .int x4)] []) (hrc : ∀ (w : Wd) (x2 : Int32) (x3 : Int32) , rc w x2 x3 = some r → V X S w 9 [(0, rf S 88), (1, .int x2), (2, .int x3)] [])  (hP : K_X11_firm_49 F  k57 rc w x10 x11 x12 = some r) : V X S w 49 [(0, rf S 88), (2, .int x10)] [.int x11, .int x12] := by
  unfold K_X11_firm_49 at hP
  refine V_ior hX dX11_firm_49 ?_
  refine V_topi (fun x13 ex13 => ?_)
  replace hP := lt_r ex13 hP
  refine V_istore_n (lv' := [(1, .int x13), (0, rf S 88), (2, .int x10)]) hX dX11_firm_50 (by decide) rfl ?_
  obtain ⟨x14, ex14⟩ : ∃ y : Int32, y = x10 + 1 := ⟨_, rfl⟩
  replace hP := lt_r ex14 hP
  refine V_iinc (v := x14) (lv' := [(2, .int x14), (1, .int x13), (0, rf S 88)]) hX dX11_firm_51 (j := 2) rfl (by decide) (by rw [ex14]; rfl) rfl ?_
  refine V_goto (tgt := 9) hX dX11_firm_54 (by decide) ?_
  refine V_sub (lv' := [(0, rf S 88), (1, .int x13), (2, .int x14)]) [2, 1, 0] rfl ?_
  exact hrc _ _ _  hP
def K_X11_firm_42 (F : Nat)  (k57 : Wd → Int32 → Option (Int32 × Wd)) (rc : Wd → Int32 → Int32 → Option (Int32 × Wd)) (w : Wd) (x8 : Int32) (x9 : Int32) : Option (Int32 × Wd) := K_X11_firm_49 F  k57 rc w x8 (ishlI 1 x8) x9
set_option maxRecDepth 100000 in
set_option maxHeartbeats 4000000 in
theorem sK_X11_firm_42 {X : Cx} {S : Sx} {r : Int32 × Wd} {F : Nat}  {k57 : Wd → Int32 → Option (Int32 × Wd)} {rc : Wd → Int32 → Int32 → Option (Int32 × Wd)} {w : Wd} {x8 : Int32} {x9 : Int32} (hX : Ok X S cX11_firm RX11 3 rm_X11_firm) (hR : HRt X S cX11_firm .int r)  (hk57 : ∀ (w : Wd) (x4 : Int32) , k57 w x4 = some r → V X S w 57 [(0, rf S 88), (1, .int x4)] []) (hrc : ∀ (w : Wd) (x2 : Int32) (x3 : Int32) , rc w x2 x3 = some r → V X S w 9 [(0, rf S 88), (1, .int x2), (2, .int x3)] [])  (hP : K_X11_firm_42 F  k57 rc w x8 x9 = some r) : V X S w 42 [(0, rf S 88), (2, .int x8)] [.int x9] := by
  unfold K_X11_firm_42 at hP
  refine V_iconst (v := 1) hX dX11_firm_42 (by decide) ?_
  refine V_iload_n hX dX11_firm_43 1 rfl ?_
  refine V_ishl hX dX11_firm_44 ?_
  refine V_goto (tgt := 49) hX dX11_firm_45 (by decide) ?_
  exact sK_X11_firm_49 hX hR  hk57 hrc  hP
def L_X11_firm_9 (F : Nat)  (k57 : Wd → Int32 → Option (Int32 × Wd)) : Nat → Wd → Int32 → Int32 → Option (Int32 × Wd)
  | 0, _, _, _ => none
  | n + 1, w, x2, x3 => (if (gI w 88 4) ≤ x3 then k57 w x2 else gd (inB x3 8) ((if (gI w 93 x3.toNatClampNeg) = 0 then K_X11_firm_42 F  k57 ((L_X11_firm_9 F  k57 n)) w x3 x2 else gd (inB x3 8) (lt (if (gI w 93 x3.toNatClampNeg) ≤ ((gI w 88 4) - 1) then 0 else ishlI 1 x3 : Int32) (fun x17 => lt (x2 ||| x17 : Int32) (fun x18 => lt (x3 + 1 : Int32) (fun x19 => L_X11_firm_9 F  k57 n w x18 x19)))))))
set_option maxRecDepth 100000 in
set_option maxHeartbeats 4000000 in
theorem sL_X11_firm_9 {X : Cx} {S : Sx} {r : Int32 × Wd} {F : Nat}  {k57 : Wd → Int32 → Option (Int32 × Wd)} (hX : Ok X S cX11_firm RX11 3 rm_X11_firm) (hR : HRt X S cX11_firm .int r)  (hk57 : ∀ (w : Wd) (x4 : Int32) , k57 w x4 = some r → V X S w 57 [(0, rf S 88), (1, .int x4)] []) : ∀ (n : Nat) (w : Wd) (x2 : Int32) (x3 : Int32) , L_X11_firm_9 F  k57 n w x2 x3 = some r → V X S w 9 [(0, rf S 88), (1, .int x2), (2, .int x3)] [] := by
  intro n
  induction n with
  | zero =>
    intro w x2 x3  hP
    exact nn hP
  | succ n ih =>
    intro w x2 x3  hP
    rw [L_X11_firm_9] at hP
    refine V_iload_n hX dX11_firm_9 2 rfl ?_
    refine V_aload_n hX dX11_firm_10 0 rfl ?_
    refine V_getI hX fk_X11_202 tb_88 (fun _ _ _ => rfl) dX11_firm_11 ?_
    refine V_icmp_ge (tgt := 57) hX dX11_firm_14 (by decide) (fun hc5 => ?_) (fun hc5 => ?_)
    · replace hP := ite_t hc5 hP
      refine V_sub (lv' := [(0, rf S 88), (1, .int x2)]) [0, 1] rfl ?_
      exact hk57 _ _  hP
    · replace hP := ite_f hc5 hP
      refine V_iload_n hX dX11_firm_17 1 rfl ?_
      refine V_aload_n hX dX11_firm_18 0 rfl ?_
      refine V_getF (j := 93) hX fk_X11_23 tb_88 (fun _ _ _ => rfl) dX11_firm_19 ?_
      refine V_iload_n hX dX11_firm_22 2 rfl ?_
      obtain ⟨hi6, hP⟩ := gd_e hP
      refine V_iald hX tb_93 hi6 dX11_firm_23 ?_
      refine V_if_eq (tgt := 42) hX dX11_firm_24 (by decide) (fun hc7 => ?_) (fun hc7 => ?_)
      · replace hP := ite_t hc7 hP
        refine V_sub (lv' := [(0, rf S 88), (2, .int x3)]) [0, 2] rfl ?_
        exact sK_X11_firm_42 hX hR  hk57 ih  hP
      · replace hP := ite_f hc7 hP
        refine V_aload_n hX dX11_firm_27 0 rfl ?_
        refine V_getF (j := 93) hX fk_X11_23 tb_88 (fun _ _ _ => rfl) dX11_firm_28 ?_
        refine V_iload_n hX dX11_firm_31 2 rfl ?_
        obtain ⟨hi15, hP⟩ := gd_e hP
        refine V_iald hX tb_93 hi15 dX11_firm_32 ?_
        refine V_aload_n hX dX11_firm_33 0 rfl ?_
        refine V_getI hX fk_X11_202 tb_88 (fun _ _ _ => rfl) dX11_firm_34 ?_
        refine V_iconst (v := 1) hX dX11_firm_37 (by decide) ?_
        refine V_isub hX dX11_firm_38 ?_
        have k20 : V X S w 49 [(0, rf S 88), (1, .int x2), (2, .int x3)] [.int (if (gI w 93 x3.toNatClampNeg) ≤ ((gI w 88 4) - 1) then 0 else ishlI 1 x3), .int x2] := by
          refine V_topi (fun x17 ex17 => ?_)
          replace hP := lt_r ex17 hP
          refine V_ior hX dX11_firm_49 ?_
          refine V_topi (fun x18 ex18 => ?_)
          replace hP := lt_r ex18 hP
          refine V_istore_n (lv' := [(1, .int x18), (0, rf S 88), (2, .int x3)]) hX dX11_firm_50 (by decide) rfl ?_
          obtain ⟨x19, ex19⟩ : ∃ y : Int32, y = x3 + 1 := ⟨_, rfl⟩
          replace hP := lt_r ex19 hP
          refine V_iinc (v := x19) (lv' := [(2, .int x19), (1, .int x18), (0, rf S 88)]) hX dX11_firm_51 (j := 2) rfl (by decide) (by rw [ex19]; rfl) rfl ?_
          refine V_goto (tgt := 9) hX dX11_firm_54 (by decide) ?_
          refine V_sub (lv' := [(0, rf S 88), (1, .int x18), (2, .int x19)]) [2, 1, 0] rfl ?_
          exact ih _ _ _  hP
        refine V_icmp_le (tgt := 48) hX dX11_firm_39 (by decide) (fun hc16 => ?_) (fun hc16 => ?_)
        · refine V_iconst (v := 0) hX dX11_firm_48 (by decide) ?_
          refine V_selT (c := (gI w 93 x3.toNatClampNeg) ≤ ((gI w 88 4) - 1)) (b := ishlI 1 x3) hc16 ?_
          exact k20
        · refine V_iconst (v := 1) hX dX11_firm_42 (by decide) ?_
          refine V_iload_n hX dX11_firm_43 2 rfl ?_
          refine V_ishl hX dX11_firm_44 ?_
          refine V_goto (tgt := 49) hX dX11_firm_45 (by decide) ?_
          refine V_selF (c := (gI w 93 x3.toNatClampNeg) ≤ ((gI w 88 4) - 1)) (a := 0) hc16 ?_
          exact k20
def P_X11_firm (F : Nat) (w : Wd)  : Option (Int32 × Wd) := lt (sI w 88 0 0) (fun w1 => L_X11_firm_9 F  (fun w x4 => lt (sI w 88 1 0) (fun w21 => bnd (P_J6_bitCount_0f7a4 F w21 x4) (fun x23 w22 => bnv (P_X11_enters F w22 (Int32.toInt64 x23)) (fun w24 => some (x4, w24))))) F w1 0 0)
set_option maxRecDepth 100000 in
set_option maxHeartbeats 4000000 in
theorem s_X11_firm {X : Cx} {S : Sx} {r : Int32 × Wd} {F : Nat} {w : Wd}   (hX : Ok X S cX11_firm RX11 3 rm_X11_firm) (hR : HRt X S cX11_firm .int r) (hP : P_X11_firm F w  = some r) : V X S w 0 [(0, rf S 88)] [] := by
  unfold P_X11_firm at hP
  refine V_aload_n hX dX11_firm_0 0 rfl ?_
  refine V_iconst (v := 0) hX dX11_firm_1 (by decide) ?_
  refine V_putI hX fw_X11_102 tb_88 (fun _ _ _ => ⟨Nat.le_of_ble_eq_true rfl, rfl⟩) dX11_firm_2 (fun w1 ew1 => ?_)
  replace hP := lt_r ew1 hP
  refine V_iconst (v := 0) hX dX11_firm_5 (by decide) ?_
  refine V_istore_n (lv' := [(1, .int 0), (0, rf S 88)]) hX dX11_firm_6 (by decide) rfl ?_
  refine V_iconst (v := 0) hX dX11_firm_7 (by decide) ?_
  refine V_istore_n (lv' := [(2, .int 0), (1, .int 0), (0, rf S 88)]) hX dX11_firm_8 (by decide) rfl ?_
  refine V_sub (lv' := [(0, rf S 88), (1, .int 0), (2, .int 0)]) [2, 1, 0] rfl ?_
  have k25 : ∀ (w : Wd) (x4 : Int32) , (lt (sI w 88 1 0) (fun w21 => bnd (P_J6_bitCount_0f7a4 F w21 x4) (fun x23 w22 => bnv (P_X11_enters F w22 (Int32.toInt64 x23)) (fun w24 => some (x4, w24))))) = some r → V X S w 57 [(0, rf S 88), (1, .int x4)] [] := by
    intro w x4  hP
    refine V_aload_n hX dX11_firm_57 0 rfl ?_
    refine V_iconst (v := 0) hX dX11_firm_58 (by decide) ?_
    refine V_putI hX fw_X11_110 tb_88 (fun _ _ _ => ⟨Nat.le_of_ble_eq_true rfl, rfl⟩) dX11_firm_59 (fun w21 ew21 => ?_)
    replace hP := lt_r ew21 hP
    refine V_aload_n hX dX11_firm_62 0 rfl ?_
    refine V_iload_n hX dX11_firm_63 1 rfl ?_
    obtain ⟨x23, w22, hcw22, hP⟩ := bnd_e hP
    refine V_callSi (As := [.int x4]) (rest := [rf S 88]) hX mk_X11_248 nk_J6_bitCount_0f7a4 (fun l => c_J6_bitCount_0f7a4 l S  hcw22) ⟨rfl, rfl, Nat.le_of_ble_eq_true rfl, Nat.le_of_ble_eq_true rfl⟩ rfl rfl (Nat.le_of_ble_eq_true rfl) dX11_firm_64 ?_
    refine V_i2l hX dX11_firm_67 ?_
    obtain ⟨w24, hcw24, hP⟩ := bnv_e hP
    refine V_callVv (As := [.long (Int32.toInt64 x23)]) (rest := []) hX mk_X11_316 nk_X11_enters (fun l => c_X11_enters l S  hcw24) tb_88 rfl ⟨rfl, rfl, Nat.le_of_ble_eq_true rfl, Nat.le_of_ble_eq_true rfl⟩ rfl rfl (Nat.le_of_ble_eq_true rfl) dX11_firm_68 ?_
    refine V_iload_n hX dX11_firm_71 1 rfl ?_
    exact hR _ _ _ _ (Option.some.inj hP) rfl dX11_firm_72
  exact sL_X11_firm_9 hX hR  k25 F _ _ _  hP
theorem c_X11_firm (l : Launch) (S : Sx) {r : Int32 × Wd} {F : Nat} {w : Wd}   (h : P_X11_firm F w  = some r) : Met l yX11_firm (wsg yX11_firm cX11_firm 3 (some .int)) rm_X11_firm (PC S w [rf S 88]) (QCi S r) 0 0 (Aw S) :=
  met_i (by decide) rfl (Nat.le_of_ble_eq_true rfl) ⟨rfl, rfl⟩ (fun X hX hR => s_X11_firm  hX hR h)
