-- MustNotStopModel.law()I
abbrev rm_X11_law : Room := { frames := 152, cells := 0, slots := 0, locals := 13545 }
theorem nk_X11_law : MNk yX11_law RX11 0 := ⟨rfl, by decide, by decide, by decide +kernel⟩
def L_X11_law_35 (F : Nat) (x8 : Int32) (x9 : Int32) (k64 : Wd → Option (Int32 × Wd)) : Nat → Wd → Int32 → Option (Int32 × Wd)
  | 0, _, _ => none
  | n + 1, w, x10 => (if (gI w 88 22) ≤ x10 then k64 w  else gd (inB x10 80) (gd (inB x10 80) (lt (sI w 110 x10.toNatClampNeg (gI w 99 x10.toNatClampNeg)) (fun w14 => lt (x10 + 1 : Int32) (fun x15 => L_X11_law_35 F x8 x9 k64 n w14 x15)))))
set_option maxRecDepth 100000 in
set_option maxHeartbeats 4000000 in
theorem sL_X11_law_35 {X : Cx} {S : Sx} {r : Int32 × Wd} {F : Nat} {x8 : Int32} {x9 : Int32} {k64 : Wd → Option (Int32 × Wd)} (hX : Ok X S cX11_law RX11 5 rm_X11_law) (hR : HRt X S cX11_law .int r)  (hk64 : ∀ (w : Wd), k64 w = some r → V X S w 64 [(0, rf S 88), (2, .int x8), (3, .int x9)] []) : ∀ (n : Nat) (w : Wd) (x10 : Int32) , L_X11_law_35 F x8 x9 k64 n w x10 = some r → V X S w 35 [(0, rf S 88), (2, .int x8), (3, .int x9), (4, .int x10)] [] := by
  intro n
  induction n with
  | zero =>
    intro w x10  hP
    exact nn hP
  | succ n ih =>
    intro w x10  hP
    rw [L_X11_law_35] at hP
    refine V_iload hX dX11_law_35 3 rfl ?_
    refine V_aload_n hX dX11_law_37 0 rfl ?_
    refine V_getI hX fk_X11_233 tb_88 (fun _ _ _ => rfl) dX11_law_38 ?_
    refine V_icmp_ge (tgt := 64) hX dX11_law_41 (by decide) (fun hc11 => ?_) (fun hc11 => ?_)
    · replace hP := ite_t hc11 hP
      refine V_sub (lv' := [(0, rf S 88), (2, .int x8), (3, .int x9)]) [0, 1, 2] rfl ?_
      exact hk64 _   hP
    · replace hP := ite_f hc11 hP
      refine V_aload_n hX dX11_law_44 0 rfl ?_
      refine V_getF (j := 110) hX fk_X11_74 tb_88 (fun _ _ _ => rfl) dX11_law_45 ?_
      refine V_iload hX dX11_law_48 3 rfl ?_
      refine V_aload_n hX dX11_law_50 0 rfl ?_
      refine V_getF (j := 99) hX fk_X11_41 tb_88 (fun _ _ _ => rfl) dX11_law_51 ?_
      refine V_iload hX dX11_law_54 3 rfl ?_
      obtain ⟨hi12, hP⟩ := gd_e hP
      refine V_iald hX tb_99 hi12 dX11_law_56 ?_
      obtain ⟨hi13, hP⟩ := gd_e hP
      refine V_iast hX tb_110 hi13 dX11_law_57 (fun w14 ew14 => ?_)
      replace hP := lt_r ew14 hP
      obtain ⟨x15, ex15⟩ : ∃ y : Int32, y = x10 + 1 := ⟨_, rfl⟩
      replace hP := lt_r ex15 hP
      refine V_iinc (v := x15) (lv' := [(4, .int x15), (0, rf S 88), (2, .int x8), (3, .int x9)]) hX dX11_law_58 (j := 3) rfl (by decide) (by rw [ex15]; rfl) rfl ?_
      refine V_goto (tgt := 35) hX dX11_law_61 (by decide) ?_
      refine V_sub (lv' := [(0, rf S 88), (2, .int x8), (3, .int x9), (4, .int x15)]) [1, 2, 3, 0] rfl ?_
      exact ih _ _  hP
def P_X11_law (F : Nat) (w : Wd)  : Option (Int32 × Wd) := lt (sI w 88 0 0) (fun w1 => bnd (P_X11_readsRule F w1 ) (fun x3 w2 => (if (0 : Int32) ≤ x3 then bnd (P_X11_stopsIn F w2 ) (fun x6 w5 => lt (gI w5 88 22 : Int32) (fun x7 => L_X11_law_35 F x6 x7 (fun w  => bnv (P_X11_laysCode F w 100 (gI w 88 23)) (fun w16 => bnd (P_X11_stopsIn F w16 ) (fun x18 w17 => bnv (P_X11_laysCode F w17 110 x7) (fun w19 => lt (sI w19 88 1 0) (fun w20 => bnv (P_X11_enters F w20 (Int32.toInt64 x18)) (fun w21 => bnv (P_X11_enters F w21 (Int32.toInt64 x6)) (fun w22 => some (x18 - x6, w22)))))))) F w5 0)) else some ((x3 + 1) - 10000, w2))))
set_option maxRecDepth 100000 in
set_option maxHeartbeats 4000000 in
theorem s_X11_law {X : Cx} {S : Sx} {r : Int32 × Wd} {F : Nat} {w : Wd}   (hX : Ok X S cX11_law RX11 5 rm_X11_law) (hR : HRt X S cX11_law .int r) (hP : P_X11_law F w  = some r) : V X S w 0 [(0, rf S 88)] [] := by
  unfold P_X11_law at hP
  refine V_aload_n hX dX11_law_0 0 rfl ?_
  refine V_iconst (v := 0) hX dX11_law_1 (by decide) ?_
  refine V_putI hX fw_X11_102 tb_88 (fun _ _ _ => ⟨Nat.le_of_ble_eq_true rfl, rfl⟩) dX11_law_2 (fun w1 ew1 => ?_)
  replace hP := lt_r ew1 hP
  refine V_aload_n hX dX11_law_5 0 rfl ?_
  obtain ⟨x3, w2, hcw2, hP⟩ := bnd_e hP
  refine V_callVi (As := []) (rest := []) hX mk_X11_226 nk_X11_readsRule (fun l => c_X11_readsRule l S  hcw2) tb_88 rfl ⟨rfl, rfl, Nat.le_of_ble_eq_true rfl, Nat.le_of_ble_eq_true rfl⟩ rfl rfl (Nat.le_of_ble_eq_true rfl) dX11_law_6 ?_
  refine V_istore_n (lv' := [(1, .int x3), (0, rf S 88)]) hX dX11_law_9 (by decide) rfl ?_
  refine V_iload_n hX dX11_law_10 0 rfl ?_
  refine V_if_ge (tgt := 22) hX dX11_law_11 (by decide) (fun hc4 => ?_) (fun hc4 => ?_)
  · replace hP := ite_t hc4 hP
    refine V_aload_n hX dX11_law_22 1 rfl ?_
    obtain ⟨x6, w5, hcw5, hP⟩ := bnd_e hP
    refine V_callVi (As := []) (rest := []) hX mk_X11_336 nk_X11_stopsIn (fun l => c_X11_stopsIn l S  hcw5) tb_88 rfl ⟨rfl, rfl, Nat.le_of_ble_eq_true rfl, Nat.le_of_ble_eq_true rfl⟩ rfl rfl (Nat.le_of_ble_eq_true rfl) dX11_law_23 ?_
    refine V_istore_n (lv' := [(2, .int x6), (1, .int x3), (0, rf S 88)]) hX dX11_law_26 (by decide) rfl ?_
    refine V_aload_n hX dX11_law_27 2 rfl ?_
    refine V_getI hX fk_X11_233 tb_88 (fun _ _ _ => rfl) dX11_law_28 ?_
    refine V_topi (fun x7 ex7 => ?_)
    replace hP := lt_r ex7 hP
    refine V_istore_n (lv' := [(3, .int x7), (2, .int x6), (1, .int x3), (0, rf S 88)]) hX dX11_law_31 (by decide) rfl ?_
    refine V_iconst (v := 0) hX dX11_law_32 (by decide) ?_
    refine V_istore (lv' := [(4, .int 0), (3, .int x7), (2, .int x6), (1, .int x3), (0, rf S 88)]) hX dX11_law_33 (by decide) rfl ?_
    refine V_sub (lv' := [(0, rf S 88), (2, .int x6), (3, .int x7), (4, .int 0)]) [4, 2, 1, 0] rfl ?_
    have k23 : ∀ (w : Wd)  , (bnv (P_X11_laysCode F w 100 (gI w 88 23)) (fun w16 => bnd (P_X11_stopsIn F w16 ) (fun x18 w17 => bnv (P_X11_laysCode F w17 110 x7) (fun w19 => lt (sI w19 88 1 0) (fun w20 => bnv (P_X11_enters F w20 (Int32.toInt64 x18)) (fun w21 => bnv (P_X11_enters F w21 (Int32.toInt64 x6)) (fun w22 => some (x18 - x6, w22)))))))) = some r → V X S w 64 [(0, rf S 88), (2, .int x6), (3, .int x7)] [] := by
      intro w   hP
      refine V_aload_n hX dX11_law_64 0 rfl ?_
      refine V_aload_n hX dX11_law_65 0 rfl ?_
      refine V_getF (j := 100) hX fk_X11_44 tb_88 (fun _ _ _ => rfl) dX11_law_66 ?_
      refine V_aload_n hX dX11_law_69 0 rfl ?_
      refine V_getI hX fk_X11_205 tb_88 (fun _ _ _ => rfl) dX11_law_70 ?_
      obtain ⟨w16, hcw16, hP⟩ := bnv_e hP
      refine V_callVv (As := [rf S 100, .int (gI w 88 23)]) (rest := []) hX mk_X11_229 nk_X11_laysCode (fun l => c_X11_laysCode l S (by decide) hcw16) tb_88 rfl ⟨rfl, rfl, Nat.le_of_ble_eq_true rfl, Nat.le_of_ble_eq_true rfl⟩ rfl rfl (Nat.le_of_ble_eq_true rfl) dX11_law_73 ?_
      refine V_aload_n hX dX11_law_76 0 rfl ?_
      obtain ⟨x18, w17, hcw17, hP⟩ := bnd_e hP
      refine V_callVi (As := []) (rest := []) hX mk_X11_336 nk_X11_stopsIn (fun l => c_X11_stopsIn l S  hcw17) tb_88 rfl ⟨rfl, rfl, Nat.le_of_ble_eq_true rfl, Nat.le_of_ble_eq_true rfl⟩ rfl rfl (Nat.le_of_ble_eq_true rfl) dX11_law_77 ?_
      refine V_istore (lv' := [(4, .int x18), (0, rf S 88), (2, .int x6), (3, .int x7)]) hX dX11_law_80 (by decide) rfl ?_
      refine V_aload_n hX dX11_law_82 1 rfl ?_
      refine V_aload_n hX dX11_law_83 1 rfl ?_
      refine V_getF (j := 110) hX fk_X11_74 tb_88 (fun _ _ _ => rfl) dX11_law_84 ?_
      refine V_iload_n hX dX11_law_87 3 rfl ?_
      obtain ⟨w19, hcw19, hP⟩ := bnv_e hP
      refine V_callVv (As := [rf S 110, .int x7]) (rest := []) hX mk_X11_229 nk_X11_laysCode (fun l => c_X11_laysCode l S (by decide) hcw19) tb_88 rfl ⟨rfl, rfl, Nat.le_of_ble_eq_true rfl, Nat.le_of_ble_eq_true rfl⟩ rfl rfl (Nat.le_of_ble_eq_true rfl) dX11_law_88 ?_
      refine V_aload_n hX dX11_law_91 1 rfl ?_
      refine V_iconst (v := 0) hX dX11_law_92 (by decide) ?_
      refine V_putI hX fw_X11_110 tb_88 (fun _ _ _ => ⟨Nat.le_of_ble_eq_true rfl, rfl⟩) dX11_law_93 (fun w20 ew20 => ?_)
      replace hP := lt_r ew20 hP
      refine V_aload_n hX dX11_law_96 1 rfl ?_
      refine V_iload hX dX11_law_97 0 rfl ?_
      refine V_i2l hX dX11_law_99 ?_
      obtain ⟨w21, hcw21, hP⟩ := bnv_e hP
      refine V_callVv (As := [.long (Int32.toInt64 x18)]) (rest := []) hX mk_X11_316 nk_X11_enters (fun l => c_X11_enters l S  hcw21) tb_88 rfl ⟨rfl, rfl, Nat.le_of_ble_eq_true rfl, Nat.le_of_ble_eq_true rfl⟩ rfl rfl (Nat.le_of_ble_eq_true rfl) dX11_law_100 ?_
      refine V_aload_n hX dX11_law_103 1 rfl ?_
      refine V_iload_n hX dX11_law_104 2 rfl ?_
      refine V_i2l hX dX11_law_105 ?_
      obtain ⟨w22, hcw22, hP⟩ := bnv_e hP
      refine V_callVv (As := [.long (Int32.toInt64 x6)]) (rest := []) hX mk_X11_316 nk_X11_enters (fun l => c_X11_enters l S  hcw22) tb_88 rfl ⟨rfl, rfl, Nat.le_of_ble_eq_true rfl, Nat.le_of_ble_eq_true rfl⟩ rfl rfl (Nat.le_of_ble_eq_true rfl) dX11_law_106 ?_
      refine V_iload hX dX11_law_109 0 rfl ?_
      refine V_iload_n hX dX11_law_111 2 rfl ?_
      refine V_isub hX dX11_law_112 ?_
      exact hR _ _ _ _ (Option.some.inj hP) rfl dX11_law_113
    exact sL_X11_law_35 hX hR  k23 F _ _  hP
  · replace hP := ite_f hc4 hP
    refine V_iload_n hX dX11_law_14 0 rfl ?_
    refine V_iconst (v := 1) hX dX11_law_15 (by decide) ?_
    refine V_iadd hX dX11_law_16 ?_
    refine V_sipush (v := 10000) hX dX11_law_17 (by decide) ?_
    refine V_isub hX dX11_law_20 ?_
    exact hR _ _ _ _ (Option.some.inj hP) rfl dX11_law_21
theorem c_X11_law (l : Launch) (S : Sx) {r : Int32 × Wd} {F : Nat} {w : Wd}   (h : P_X11_law F w  = some r) : Met l yX11_law (wsg yX11_law cX11_law 5 (some .int)) rm_X11_law (PC S w [rf S 88]) (QCi S r) 0 0 (Aw S) :=
  met_i (by decide) rfl (Nat.le_of_ble_eq_true rfl) ⟨rfl, rfl⟩ (fun X hX hR => s_X11_law  hX hR h)

-- MustNotStopModel.able()I
abbrev rm_X11_able : Room := { frames := 6, cells := 0, slots := 0, locals := 174 }
theorem nk_X11_able : MNk yX11_able RX11 0 := ⟨rfl, by decide, by decide, by decide +kernel⟩
def L_X11_able_4 (F : Nat)  (k42 : Wd → Int32 → Option (Int32 × Wd)) : Nat → Wd → Int32 → Int32 → Option (Int32 × Wd)
  | 0, _, _, _ => none
  | n + 1, w, x1, x2 => (if (gI w 88 3) ≤ x2 then k42 w x1 else bnd (P_X11_loudOf F w 95 (ishlI 1 x2)) (fun x6 w5 => lt (if x6 ≤ 0 then 0 else ishlI 1 x2 : Int32) (fun x8 => lt (x1 ||| x8 : Int32) (fun x9 => lt (x2 + 1 : Int32) (fun x10 => L_X11_able_4 F  k42 n w5 x9 x10)))))
set_option maxRecDepth 100000 in
set_option maxHeartbeats 4000000 in
theorem sL_X11_able_4 {X : Cx} {S : Sx} {r : Int32 × Wd} {F : Nat}  {k42 : Wd → Int32 → Option (Int32 × Wd)} (hX : Ok X S cX11_able RX11 3 rm_X11_able) (hR : HRt X S cX11_able .int r)  (hk42 : ∀ (w : Wd) (x3 : Int32) , k42 w x3 = some r → V X S w 42 [(1, .int x3)] []) : ∀ (n : Nat) (w : Wd) (x1 : Int32) (x2 : Int32) , L_X11_able_4 F  k42 n w x1 x2 = some r → V X S w 4 [(0, rf S 88), (1, .int x1), (2, .int x2)] [] := by
  intro n
  induction n with
  | zero =>
    intro w x1 x2  hP
    exact nn hP
  | succ n ih =>
    intro w x1 x2  hP
    rw [L_X11_able_4] at hP
    refine V_iload_n hX dX11_able_4 2 rfl ?_
    refine V_aload_n hX dX11_able_5 0 rfl ?_
    refine V_getI hX fk_X11_113 tb_88 (fun _ _ _ => rfl) dX11_able_6 ?_
    refine V_icmp_ge (tgt := 42) hX dX11_able_9 (by decide) (fun hc4 => ?_) (fun hc4 => ?_)
    · replace hP := ite_t hc4 hP
      refine V_sub (lv' := [(1, .int x1)]) [1] rfl ?_
      exact hk42 _ _  hP
    · replace hP := ite_f hc4 hP
      refine V_iload_n hX dX11_able_12 1 rfl ?_
      refine V_aload_n hX dX11_able_13 0 rfl ?_
      refine V_aload_n hX dX11_able_14 0 rfl ?_
      refine V_getF (j := 95) hX fk_X11_29 tb_88 (fun _ _ _ => rfl) dX11_able_15 ?_
      refine V_iconst (v := 1) hX dX11_able_18 (by decide) ?_
      refine V_iload_n hX dX11_able_19 2 rfl ?_
      refine V_ishl hX dX11_able_20 ?_
      obtain ⟨x6, w5, hcw5, hP⟩ := bnd_e hP
      refine V_callVi (As := [rf S 95, .int (ishlI 1 x2)]) (rest := [.int x1]) hX mk_X11_268 nk_X11_loudOf (fun l => c_X11_loudOf l S (by decide) hcw5) tb_88 rfl ⟨rfl, rfl, Nat.le_of_ble_eq_true rfl, Nat.le_of_ble_eq_true rfl⟩ rfl rfl (Nat.le_of_ble_eq_true rfl) dX11_able_21 ?_
      have k11 : V X S w5 34 [(0, rf S 88), (1, .int x1), (2, .int x2)] [.int (if x6 ≤ 0 then 0 else ishlI 1 x2), .int x1] := by
        refine V_topi (fun x8 ex8 => ?_)
        replace hP := lt_r ex8 hP
        refine V_ior hX dX11_able_34 ?_
        refine V_topi (fun x9 ex9 => ?_)
        replace hP := lt_r ex9 hP
        refine V_istore_n (lv' := [(1, .int x9), (0, rf S 88), (2, .int x2)]) hX dX11_able_35 (by decide) rfl ?_
        obtain ⟨x10, ex10⟩ : ∃ y : Int32, y = x2 + 1 := ⟨_, rfl⟩
        replace hP := lt_r ex10 hP
        refine V_iinc (v := x10) (lv' := [(2, .int x10), (1, .int x9), (0, rf S 88)]) hX dX11_able_36 (j := 2) rfl (by decide) (by rw [ex10]; rfl) rfl ?_
        refine V_goto (tgt := 4) hX dX11_able_39 (by decide) ?_
        refine V_sub (lv' := [(0, rf S 88), (1, .int x9), (2, .int x10)]) [2, 1, 0] rfl ?_
        exact ih _ _ _  hP
      refine V_if_le (tgt := 33) hX dX11_able_24 (by decide) (fun hc7 => ?_) (fun hc7 => ?_)
      · refine V_iconst (v := 0) hX dX11_able_33 (by decide) ?_
        refine V_selT (c := x6 ≤ 0) (b := ishlI 1 x2) hc7 ?_
        exact k11
      · refine V_iconst (v := 1) hX dX11_able_27 (by decide) ?_
        refine V_iload_n hX dX11_able_28 2 rfl ?_
        refine V_ishl hX dX11_able_29 ?_
        refine V_goto (tgt := 34) hX dX11_able_30 (by decide) ?_
        refine V_selF (c := x6 ≤ 0) (a := 0) hc7 ?_
        exact k11
def P_X11_able (F : Nat) (w : Wd)  : Option (Int32 × Wd) := L_X11_able_4 F  (fun w x3 => some (x3, w)) F w 0 0
set_option maxRecDepth 100000 in
set_option maxHeartbeats 4000000 in
theorem s_X11_able {X : Cx} {S : Sx} {r : Int32 × Wd} {F : Nat} {w : Wd}   (hX : Ok X S cX11_able RX11 3 rm_X11_able) (hR : HRt X S cX11_able .int r) (hP : P_X11_able F w  = some r) : V X S w 0 [(0, rf S 88)] [] := by
  unfold P_X11_able at hP
  refine V_iconst (v := 0) hX dX11_able_0 (by decide) ?_
  refine V_istore_n (lv' := [(1, .int 0), (0, rf S 88)]) hX dX11_able_1 (by decide) rfl ?_
  refine V_iconst (v := 0) hX dX11_able_2 (by decide) ?_
  refine V_istore_n (lv' := [(2, .int 0), (1, .int 0), (0, rf S 88)]) hX dX11_able_3 (by decide) rfl ?_
  refine V_sub (lv' := [(0, rf S 88), (1, .int 0), (2, .int 0)]) [2, 1, 0] rfl ?_
  have k12 : ∀ (w : Wd) (x3 : Int32) , (some (x3, w)) = some r → V X S w 42 [(1, .int x3)] [] := by
    intro w x3  hP
    refine V_iload_n hX dX11_able_42 0 rfl ?_
    exact hR _ _ _ _ (Option.some.inj hP) rfl dX11_able_43
  exact sL_X11_able_4 hX hR  k12 F _ _ _  hP
theorem c_X11_able (l : Launch) (S : Sx) {r : Int32 × Wd} {F : Nat} {w : Wd}   (h : P_X11_able F w  = some r) : Met l yX11_able (wsg yX11_able cX11_able 3 (some .int)) rm_X11_able (PC S w [rf S 88]) (QCi S r) 0 0 (Aw S) :=
  met_i (by decide) rfl (Nat.le_of_ble_eq_true rfl) ⟨rfl, rfl⟩ (fun X hX hR => s_X11_able  hX hR h)

-- MustNotStopModel.frozen(I)I
abbrev rm_X11_frozen : Room := { frames := 7, cells := 0, slots := 0, locals := 196 }
theorem nk_X11_frozen : MNk yX11_frozen RX11 1 := ⟨rfl, by decide, by decide, by decide +kernel⟩
def P_X11_frozen (F : Nat) (w : Wd) (x1 : Int32) : Option (Int32 × Wd) := lt (sI w 88 0 0) (fun w2 => bnd (P_X11_in F w2 (Int32.toInt64 x1) 0 9) (fun x4 w3 => (if x4 = 0 then some ((-1), w3) else gd (inB 1 3) (lt (gI w3 94 1 : Int32) (fun x7 => gd (inB 1 3) (lt (sI w3 94 1 x1) (fun w9 => bnd (P_X11_able F w9 ) (fun x11 w10 => gd (inB 1 3) (lt (sI w10 94 1 x7) (fun w13 => lt (sI w13 88 1 0) (fun w14 => bnd (P_J6_bitCount_0f7a4 F w14 x11) (fun x16 w15 => bnv (P_X11_enters F w15 (Int32.toInt64 x16)) (fun w17 => some (x11, w17))))))))))))))
set_option maxRecDepth 100000 in
set_option maxHeartbeats 4000000 in
theorem s_X11_frozen {X : Cx} {S : Sx} {r : Int32 × Wd} {F : Nat} {w : Wd} {x1 : Int32}  (hX : Ok X S cX11_frozen RX11 4 rm_X11_frozen) (hR : HRt X S cX11_frozen .int r) (hP : P_X11_frozen F w x1 = some r) : V X S w 0 [(0, rf S 88), (1, .int x1)] [] := by
  unfold P_X11_frozen at hP
  refine V_aload_n hX dX11_frozen_0 0 rfl ?_
  refine V_iconst (v := 0) hX dX11_frozen_1 (by decide) ?_
  refine V_putI hX fw_X11_102 tb_88 (fun _ _ _ => ⟨Nat.le_of_ble_eq_true rfl, rfl⟩) dX11_frozen_2 (fun w2 ew2 => ?_)
  replace hP := lt_r ew2 hP
  refine V_iload_n hX dX11_frozen_5 1 rfl ?_
  refine V_i2l hX dX11_frozen_6 ?_
  refine V_lconst (v := 0) hX dX11_frozen_7 rfl ?_
  refine V_ldc2 (v := 9) hX dX11_frozen_8 cn_X11_276 ?_
  obtain ⟨x4, w3, hcw3, hP⟩ := bnd_e hP
  refine V_callSi (As := [.long (Int32.toInt64 x1), .long 0, .long 9]) (rest := []) hX mk_X11_116 nk_X11_in (fun l => c_X11_in l S  hcw3) ⟨rfl, rfl, Nat.le_of_ble_eq_true rfl, Nat.le_of_ble_eq_true rfl⟩ rfl rfl (Nat.le_of_ble_eq_true rfl) dX11_frozen_11 ?_
  refine V_if_ne (tgt := 19) hX dX11_frozen_14 (by decide) (fun hc5 => ?_) (fun hc5 => ?_)
  · replace hP := ite_f hc5 hP
    refine V_aload_n hX dX11_frozen_19 0 rfl ?_
    refine V_getF (j := 94) hX fk_X11_26 tb_88 (fun _ _ _ => rfl) dX11_frozen_20 ?_
    refine V_iconst (v := 1) hX dX11_frozen_23 (by decide) ?_
    obtain ⟨hi6, hP⟩ := gd_e hP
    refine V_iald hX tb_94 hi6 dX11_frozen_24 ?_
    refine V_topi (fun x7 ex7 => ?_)
    replace hP := lt_r ex7 hP
    refine V_istore_n (lv' := [(2, .int x7), (0, rf S 88), (1, .int x1)]) hX dX11_frozen_25 (by decide) rfl ?_
    refine V_aload_n hX dX11_frozen_26 1 rfl ?_
    refine V_getF (j := 94) hX fk_X11_26 tb_88 (fun _ _ _ => rfl) dX11_frozen_27 ?_
    refine V_iconst (v := 1) hX dX11_frozen_30 (by decide) ?_
    refine V_iload_n hX dX11_frozen_31 2 rfl ?_
    obtain ⟨hi8, hP⟩ := gd_e hP
    refine V_iast hX tb_94 hi8 dX11_frozen_32 (fun w9 ew9 => ?_)
    replace hP := lt_r ew9 hP
    refine V_aload_n hX dX11_frozen_33 1 rfl ?_
    obtain ⟨x11, w10, hcw10, hP⟩ := bnd_e hP
    refine V_callVi (As := []) (rest := []) hX mk_X11_384 nk_X11_able (fun l => c_X11_able l S  hcw10) tb_88 rfl ⟨rfl, rfl, Nat.le_of_ble_eq_true rfl, Nat.le_of_ble_eq_true rfl⟩ rfl rfl (Nat.le_of_ble_eq_true rfl) dX11_frozen_34 ?_
    refine V_istore_n (lv' := [(3, .int x11), (2, .int x7), (0, rf S 88), (1, .int x1)]) hX dX11_frozen_37 (by decide) rfl ?_
    refine V_aload_n hX dX11_frozen_38 2 rfl ?_
    refine V_getF (j := 94) hX fk_X11_26 tb_88 (fun _ _ _ => rfl) dX11_frozen_39 ?_
    refine V_iconst (v := 1) hX dX11_frozen_42 (by decide) ?_
    refine V_iload_n hX dX11_frozen_43 1 rfl ?_
    obtain ⟨hi12, hP⟩ := gd_e hP
    refine V_iast hX tb_94 hi12 dX11_frozen_44 (fun w13 ew13 => ?_)
    replace hP := lt_r ew13 hP
    refine V_aload_n hX dX11_frozen_45 2 rfl ?_
    refine V_iconst (v := 0) hX dX11_frozen_46 (by decide) ?_
    refine V_putI hX fw_X11_110 tb_88 (fun _ _ _ => ⟨Nat.le_of_ble_eq_true rfl, rfl⟩) dX11_frozen_47 (fun w14 ew14 => ?_)
    replace hP := lt_r ew14 hP
    refine V_aload_n hX dX11_frozen_50 2 rfl ?_
    refine V_iload_n hX dX11_frozen_51 0 rfl ?_
    obtain ⟨x16, w15, hcw15, hP⟩ := bnd_e hP
    refine V_callSi (As := [.int x11]) (rest := [rf S 88]) hX mk_X11_248 nk_J6_bitCount_0f7a4 (fun l => c_J6_bitCount_0f7a4 l S  hcw15) ⟨rfl, rfl, Nat.le_of_ble_eq_true rfl, Nat.le_of_ble_eq_true rfl⟩ rfl rfl (Nat.le_of_ble_eq_true rfl) dX11_frozen_52 ?_
    refine V_i2l hX dX11_frozen_55 ?_
    obtain ⟨w17, hcw17, hP⟩ := bnv_e hP
    refine V_callVv (As := [.long (Int32.toInt64 x16)]) (rest := []) hX mk_X11_316 nk_X11_enters (fun l => c_X11_enters l S  hcw17) tb_88 rfl ⟨rfl, rfl, Nat.le_of_ble_eq_true rfl, Nat.le_of_ble_eq_true rfl⟩ rfl rfl (Nat.le_of_ble_eq_true rfl) dX11_frozen_56 ?_
    refine V_iload_n hX dX11_frozen_59 0 rfl ?_
    exact hR _ _ _ _ (Option.some.inj hP) rfl dX11_frozen_60
  · replace hP := ite_t hc5 hP
    refine V_iconst (v := (-1)) hX dX11_frozen_17 (by decide) ?_
    exact hR _ _ _ _ (Option.some.inj hP) rfl dX11_frozen_18
theorem c_X11_frozen (l : Launch) (S : Sx) {r : Int32 × Wd} {F : Nat} {w : Wd} {x1 : Int32}  (h : P_X11_frozen F w x1 = some r) : Met l yX11_frozen (wsg yX11_frozen cX11_frozen 4 (some .int)) rm_X11_frozen (PC S w [rf S 88, .int x1]) (QCi S r) 0 0 (Aw S) :=
  met_i (by decide) rfl (Nat.le_of_ble_eq_true rfl) ⟨rfl, rfl⟩ (fun X hX hR => s_X11_frozen  hX hR h)

-- MustNotStopModel.heaviest(I)I
abbrev rm_X11_heaviest : Room := { frames := 9, cells := 0, slots := 0, locals := 241 }
theorem nk_X11_heaviest : MNk yX11_heaviest RX11 1 := ⟨rfl, by decide, by decide, by decide +kernel⟩
def L_X11_heaviest_33 (F : Nat) (x1 : Int32) (x8 : Int32) (k80 : Wd → Int32 → Option (Int32 × Wd)) : Nat → Wd → Int32 → Int32 → Option (Int32 × Wd)
  | 0, _, _, _ => none
  | n + 1, w, x9, x10 => (if x10 < 1 then k80 w x9 else (if (0 : Int32) ≤ x9 then k80 w x9 else gd (inB 0 3) (lt (sI w 94 0 x10) (fun w15 => gd (inB 8 16) (bnd (P_X11_rungBy F w15 (gI w15 95 8) x1) (fun x18 w17 => lt (if x18 = x1 then x10 else x9 : Int32) (fun x20 => lt (x10 + (-1) : Int32) (fun x21 => L_X11_heaviest_33 F x1 x8 k80 n w17 x20 x21))))))))
set_option maxRecDepth 100000 in
set_option maxHeartbeats 4000000 in
theorem sL_X11_heaviest_33 {X : Cx} {S : Sx} {r : Int32 × Wd} {F : Nat} {x1 : Int32} {x8 : Int32} {k80 : Wd → Int32 → Option (Int32 × Wd)} (hX : Ok X S cX11_heaviest RX11 5 rm_X11_heaviest) (hR : HRt X S cX11_heaviest .int r)  (hk80 : ∀ (w : Wd) (x11 : Int32) , k80 w x11 = some r → V X S w 80 [(0, rf S 88), (2, .int x8), (3, .int x11)] []) : ∀ (n : Nat) (w : Wd) (x9 : Int32) (x10 : Int32) , L_X11_heaviest_33 F x1 x8 k80 n w x9 x10 = some r → V X S w 33 [(0, rf S 88), (1, .int x1), (2, .int x8), (3, .int x9), (4, .int x10)] [] := by
  intro n
  induction n with
  | zero =>
    intro w x9 x10  hP
    exact nn hP
  | succ n ih =>
    intro w x9 x10  hP
    rw [L_X11_heaviest_33] at hP
    refine V_iload hX dX11_heaviest_33 4 rfl ?_
    refine V_iconst (v := 1) hX dX11_heaviest_35 (by decide) ?_
    refine V_icmp_lt (tgt := 80) hX dX11_heaviest_36 (by decide) (fun hc12 => ?_) (fun hc12 => ?_)
    · replace hP := ite_t hc12 hP
      refine V_sub (lv' := [(0, rf S 88), (2, .int x8), (3, .int x9)]) [0, 2, 3] rfl ?_
      exact hk80 _ _  hP
    · replace hP := ite_f hc12 hP
      refine V_iload_n hX dX11_heaviest_39 3 rfl ?_
      refine V_if_ge (tgt := 80) hX dX11_heaviest_40 (by decide) (fun hc13 => ?_) (fun hc13 => ?_)
      · replace hP := ite_t hc13 hP
        refine V_sub (lv' := [(0, rf S 88), (2, .int x8), (3, .int x9)]) [0, 2, 3] rfl ?_
        exact hk80 _ _  hP
      · replace hP := ite_f hc13 hP
        refine V_aload_n hX dX11_heaviest_43 0 rfl ?_
        refine V_getF (j := 94) hX fk_X11_26 tb_88 (fun _ _ _ => rfl) dX11_heaviest_44 ?_
        refine V_iconst (v := 0) hX dX11_heaviest_47 (by decide) ?_
        refine V_iload hX dX11_heaviest_48 4 rfl ?_
        obtain ⟨hi14, hP⟩ := gd_e hP
        refine V_iast hX tb_94 hi14 dX11_heaviest_50 (fun w15 ew15 => ?_)
        replace hP := lt_r ew15 hP
        refine V_aload_n hX dX11_heaviest_51 0 rfl ?_
        refine V_aload_n hX dX11_heaviest_52 0 rfl ?_
        refine V_getF (j := 95) hX fk_X11_29 tb_88 (fun _ _ _ => rfl) dX11_heaviest_53 ?_
        refine V_bipush (v := 8) hX dX11_heaviest_56 (by decide) ?_
        obtain ⟨hi16, hP⟩ := gd_e hP
        refine V_iald hX tb_95 hi16 dX11_heaviest_58 ?_
        refine V_iload_n hX dX11_heaviest_59 1 rfl ?_
        obtain ⟨x18, w17, hcw17, hP⟩ := bnd_e hP
        refine V_callVi (As := [.int (gI w15 95 8), .int x1]) (rest := []) hX mk_X11_342 nk_X11_rungBy (fun l => c_X11_rungBy l S  hcw17) tb_88 rfl ⟨rfl, rfl, Nat.le_of_ble_eq_true rfl, Nat.le_of_ble_eq_true rfl⟩ rfl rfl (Nat.le_of_ble_eq_true rfl) dX11_heaviest_60 ?_
        refine V_iload_n hX dX11_heaviest_63 1 rfl ?_
        have k22 : V X S w17 73 [(0, rf S 88), (1, .int x1), (2, .int x8), (3, .int x9), (4, .int x10)] [.int (if x18 = x1 then x10 else x9)] := by
          refine V_topi (fun x20 ex20 => ?_)
          replace hP := lt_r ex20 hP
          refine V_istore_n (lv' := [(3, .int x20), (0, rf S 88), (1, .int x1), (2, .int x8), (4, .int x10)]) hX dX11_heaviest_73 (by decide) rfl ?_
          obtain ⟨x21, ex21⟩ : ∃ y : Int32, y = x10 + (-1) := ⟨_, rfl⟩
          replace hP := lt_r ex21 hP
          refine V_iinc (v := x21) (lv' := [(4, .int x21), (3, .int x20), (0, rf S 88), (1, .int x1), (2, .int x8)]) hX dX11_heaviest_74 (j := 4) rfl (by decide) (by rw [ex21]; rfl) rfl ?_
          refine V_goto (tgt := 33) hX dX11_heaviest_77 (by decide) ?_
          refine V_sub (lv' := [(0, rf S 88), (1, .int x1), (2, .int x8), (3, .int x20), (4, .int x21)]) [2, 3, 4, 1, 0] rfl ?_
          exact ih _ _ _  hP
        refine V_icmp_ne (tgt := 72) hX dX11_heaviest_64 (by decide) (fun hc19 => ?_) (fun hc19 => ?_)
        · refine V_iload_n hX dX11_heaviest_72 3 rfl ?_
          refine V_selF (c := x18 = x1) (a := x10) hc19 ?_
          exact k22
        · refine V_iload hX dX11_heaviest_67 4 rfl ?_
          refine V_goto (tgt := 73) hX dX11_heaviest_69 (by decide) ?_
          refine V_selT (c := x18 = x1) (b := x9) hc19 ?_
          exact k22
def P_X11_heaviest (F : Nat) (w : Wd) (x1 : Int32) : Option (Int32 × Wd) := lt (sI w 88 0 0) (fun w2 => bnd (P_X11_in F w2 (Int32.toInt64 x1) 1 120) (fun x4 w3 => (if x4 = 0 then some ((-1), w3) else gd (inB 0 3) (lt (gI w3 94 0 : Int32) (fun x7 => L_X11_heaviest_33 F x1 x7 (fun w x11 => gd (inB 0 3) (lt (sI w 94 0 x7) (fun w24 => some (x11, w24)))) F w3 ((-2)) 30)))))
set_option maxRecDepth 100000 in
set_option maxHeartbeats 4000000 in
theorem s_X11_heaviest {X : Cx} {S : Sx} {r : Int32 × Wd} {F : Nat} {w : Wd} {x1 : Int32}  (hX : Ok X S cX11_heaviest RX11 5 rm_X11_heaviest) (hR : HRt X S cX11_heaviest .int r) (hP : P_X11_heaviest F w x1 = some r) : V X S w 0 [(0, rf S 88), (1, .int x1)] [] := by
  unfold P_X11_heaviest at hP
  refine V_aload_n hX dX11_heaviest_0 0 rfl ?_
  refine V_iconst (v := 0) hX dX11_heaviest_1 (by decide) ?_
  refine V_putI hX fw_X11_102 tb_88 (fun _ _ _ => ⟨Nat.le_of_ble_eq_true rfl, rfl⟩) dX11_heaviest_2 (fun w2 ew2 => ?_)
  replace hP := lt_r ew2 hP
  refine V_iload_n hX dX11_heaviest_5 1 rfl ?_
  refine V_i2l hX dX11_heaviest_6 ?_
  refine V_lconst (v := 1) hX dX11_heaviest_7 rfl ?_
  refine V_ldc2 (v := 120) hX dX11_heaviest_8 cn_X11_311 ?_
  obtain ⟨x4, w3, hcw3, hP⟩ := bnd_e hP
  refine V_callSi (As := [.long (Int32.toInt64 x1), .long 1, .long 120]) (rest := []) hX mk_X11_116 nk_X11_in (fun l => c_X11_in l S  hcw3) ⟨rfl, rfl, Nat.le_of_ble_eq_true rfl, Nat.le_of_ble_eq_true rfl⟩ rfl rfl (Nat.le_of_ble_eq_true rfl) dX11_heaviest_11 ?_
  refine V_if_ne (tgt := 19) hX dX11_heaviest_14 (by decide) (fun hc5 => ?_) (fun hc5 => ?_)
  · replace hP := ite_f hc5 hP
    refine V_aload_n hX dX11_heaviest_19 0 rfl ?_
    refine V_getF (j := 94) hX fk_X11_26 tb_88 (fun _ _ _ => rfl) dX11_heaviest_20 ?_
    refine V_iconst (v := 0) hX dX11_heaviest_23 (by decide) ?_
    obtain ⟨hi6, hP⟩ := gd_e hP
    refine V_iald hX tb_94 hi6 dX11_heaviest_24 ?_
    refine V_topi (fun x7 ex7 => ?_)
    replace hP := lt_r ex7 hP
    refine V_istore_n (lv' := [(2, .int x7), (0, rf S 88), (1, .int x1)]) hX dX11_heaviest_25 (by decide) rfl ?_
    refine V_bipush (v := (-2)) hX dX11_heaviest_26 (by decide) ?_
    refine V_istore_n (lv' := [(3, .int ((-2))), (2, .int x7), (0, rf S 88), (1, .int x1)]) hX dX11_heaviest_28 (by decide) rfl ?_
    refine V_bipush (v := 30) hX dX11_heaviest_29 (by decide) ?_
    refine V_istore (lv' := [(4, .int 30), (3, .int ((-2))), (2, .int x7), (0, rf S 88), (1, .int x1)]) hX dX11_heaviest_31 (by decide) rfl ?_
    refine V_sub (lv' := [(0, rf S 88), (1, .int x1), (2, .int x7), (3, .int ((-2))), (4, .int 30)]) [3, 4, 2, 1, 0] rfl ?_
    have k25 : ∀ (w : Wd) (x11 : Int32) , (gd (inB 0 3) (lt (sI w 94 0 x7) (fun w24 => some (x11, w24)))) = some r → V X S w 80 [(0, rf S 88), (2, .int x7), (3, .int x11)] [] := by
      intro w x11  hP
      refine V_aload_n hX dX11_heaviest_80 0 rfl ?_
      refine V_getF (j := 94) hX fk_X11_26 tb_88 (fun _ _ _ => rfl) dX11_heaviest_81 ?_
      refine V_iconst (v := 0) hX dX11_heaviest_84 (by decide) ?_
      refine V_iload_n hX dX11_heaviest_85 1 rfl ?_
      obtain ⟨hi23, hP⟩ := gd_e hP
      refine V_iast hX tb_94 hi23 dX11_heaviest_86 (fun w24 ew24 => ?_)
      replace hP := lt_r ew24 hP
      refine V_iload_n hX dX11_heaviest_87 2 rfl ?_
      exact hR _ _ _ _ (Option.some.inj hP) rfl dX11_heaviest_88
    exact sL_X11_heaviest_33 hX hR  k25 F _ _ _  hP
  · replace hP := ite_t hc5 hP
    refine V_iconst (v := (-1)) hX dX11_heaviest_17 (by decide) ?_
    exact hR _ _ _ _ (Option.some.inj hP) rfl dX11_heaviest_18
theorem c_X11_heaviest (l : Launch) (S : Sx) {r : Int32 × Wd} {F : Nat} {w : Wd} {x1 : Int32}  (h : P_X11_heaviest F w x1 = some r) : Met l yX11_heaviest (wsg yX11_heaviest cX11_heaviest 5 (some .int)) rm_X11_heaviest (PC S w [rf S 88, .int x1]) (QCi S r) 0 0 (Aw S) :=
  met_i (by decide) rfl (Nat.le_of_ble_eq_true rfl) ⟨rfl, rfl⟩ (fun X hX hR => s_X11_heaviest  hX hR h)

-- MustNotStopModel.noted(III)I
abbrev rm_X11_noted : Room := { frames := 2, cells := 0, slots := 0, locals := 89 }
theorem nk_X11_noted : MNk yX11_noted RX11 3 := ⟨rfl, by decide, by decide, by decide +kernel⟩
def P_X11_noted (F : Nat) (w : Wd) (x1 : Int32) (x2 : Int32) (x3 : Int32) : Option (Int32 × Wd) := lt (sI w 88 0 0) (fun w4 => bnd (P_X11_in F w4 (Int32.toInt64 x1) 0 5) (fun x6 w5 => (if x6 = 0 then some ((-1), w5) else bnd (P_X11_in F w5 (Int32.toInt64 x2) ((-999)) 9999) (fun x9 w8 => (if x9 = 0 then some ((-1), w8) else bnd (P_X11_in F w8 (Int32.toInt64 x3) 0 1) (fun x12 w11 => (if x12 = 0 then some ((-1), w11) else (if (gI w11 88 37) = 12 then some ((-1), w11) else gd (inB (gI w11 88 37) 12) (lt (sI w11 111 (gI w11 88 37).toNatClampNeg x1) (fun w16 => gd (inB (gI w16 88 37) 12) (lt (sI w16 112 (gI w16 88 37).toNatClampNeg x2) (fun w18 => gd (inB (gI w18 88 37) 12) (lt (sI w18 113 (gI w18 88 37).toNatClampNeg x3) (fun w20 => lt (sI w20 88 37 ((gI w20 88 37) + 1)) (fun w21 => some (gI w21 88 37, w21))))))))))))))))
set_option maxRecDepth 100000 in
set_option maxHeartbeats 4000000 in
theorem s_X11_noted {X : Cx} {S : Sx} {r : Int32 × Wd} {F : Nat} {w : Wd} {x1 : Int32} {x2 : Int32} {x3 : Int32}  (hX : Ok X S cX11_noted RX11 4 rm_X11_noted) (hR : HRt X S cX11_noted .int r) (hP : P_X11_noted F w x1 x2 x3 = some r) : V X S w 0 [(0, rf S 88), (1, .int x1), (2, .int x2), (3, .int x3)] [] := by
  unfold P_X11_noted at hP
  refine V_aload_n hX dX11_noted_0 0 rfl ?_
  refine V_iconst (v := 0) hX dX11_noted_1 (by decide) ?_
  refine V_putI hX fw_X11_102 tb_88 (fun _ _ _ => ⟨Nat.le_of_ble_eq_true rfl, rfl⟩) dX11_noted_2 (fun w4 ew4 => ?_)
  replace hP := lt_r ew4 hP
  refine V_iload_n hX dX11_noted_5 1 rfl ?_
  refine V_i2l hX dX11_noted_6 ?_
  refine V_lconst (v := 0) hX dX11_noted_7 rfl ?_
  refine V_ldc2 (v := 5) hX dX11_noted_8 cn_X11_387 ?_
  obtain ⟨x6, w5, hcw5, hP⟩ := bnd_e hP
  refine V_callSi (As := [.long (Int32.toInt64 x1), .long 0, .long 5]) (rest := []) hX mk_X11_116 nk_X11_in (fun l => c_X11_in l S  hcw5) ⟨rfl, rfl, Nat.le_of_ble_eq_true rfl, Nat.le_of_ble_eq_true rfl⟩ rfl rfl (Nat.le_of_ble_eq_true rfl) dX11_noted_11 ?_
  refine V_if_eq (tgt := 50) hX dX11_noted_14 (by decide) (fun hc7 => ?_) (fun hc7 => ?_)
  · replace hP := ite_t hc7 hP
    refine V_iconst (v := (-1)) hX dX11_noted_50 (by decide) ?_
    exact hR _ _ _ _ (Option.some.inj hP) rfl dX11_noted_51
  · replace hP := ite_f hc7 hP
    refine V_iload_n hX dX11_noted_17 2 rfl ?_
    refine V_i2l hX dX11_noted_18 ?_
    refine V_ldc2 (v := (-999)) hX dX11_noted_19 cn_X11_389 ?_
    refine V_ldc2 (v := 9999) hX dX11_noted_22 cn_X11_391 ?_
    obtain ⟨x9, w8, hcw8, hP⟩ := bnd_e hP
    refine V_callSi (As := [.long (Int32.toInt64 x2), .long ((-999)), .long 9999]) (rest := []) hX mk_X11_116 nk_X11_in (fun l => c_X11_in l S  hcw8) ⟨rfl, rfl, Nat.le_of_ble_eq_true rfl, Nat.le_of_ble_eq_true rfl⟩ rfl rfl (Nat.le_of_ble_eq_true rfl) dX11_noted_25 ?_
    refine V_if_eq (tgt := 50) hX dX11_noted_28 (by decide) (fun hc10 => ?_) (fun hc10 => ?_)
    · replace hP := ite_t hc10 hP
      refine V_iconst (v := (-1)) hX dX11_noted_50 (by decide) ?_
      exact hR _ _ _ _ (Option.some.inj hP) rfl dX11_noted_51
    · replace hP := ite_f hc10 hP
      refine V_iload_n hX dX11_noted_31 3 rfl ?_
      refine V_i2l hX dX11_noted_32 ?_
      refine V_lconst (v := 0) hX dX11_noted_33 rfl ?_
      refine V_lconst (v := 1) hX dX11_noted_34 rfl ?_
      obtain ⟨x12, w11, hcw11, hP⟩ := bnd_e hP
      refine V_callSi (As := [.long (Int32.toInt64 x3), .long 0, .long 1]) (rest := []) hX mk_X11_116 nk_X11_in (fun l => c_X11_in l S  hcw11) ⟨rfl, rfl, Nat.le_of_ble_eq_true rfl, Nat.le_of_ble_eq_true rfl⟩ rfl rfl (Nat.le_of_ble_eq_true rfl) dX11_noted_35 ?_
      refine V_if_eq (tgt := 50) hX dX11_noted_38 (by decide) (fun hc13 => ?_) (fun hc13 => ?_)
      · replace hP := ite_t hc13 hP
        refine V_iconst (v := (-1)) hX dX11_noted_50 (by decide) ?_
        exact hR _ _ _ _ (Option.some.inj hP) rfl dX11_noted_51
      · replace hP := ite_f hc13 hP
        refine V_aload_n hX dX11_noted_41 0 rfl ?_
        refine V_getI hX fk_X11_393 tb_88 (fun _ _ _ => rfl) dX11_noted_42 ?_
        refine V_bipush (v := 12) hX dX11_noted_45 (by decide) ?_
        refine V_icmp_ne (tgt := 52) hX dX11_noted_47 (by decide) (fun hc14 => ?_) (fun hc14 => ?_)
        · replace hP := ite_f hc14 hP
          refine V_aload_n hX dX11_noted_52 0 rfl ?_
          refine V_getF (j := 111) hX fk_X11_77 tb_88 (fun _ _ _ => rfl) dX11_noted_53 ?_
          refine V_aload_n hX dX11_noted_56 0 rfl ?_
          refine V_getI hX fk_X11_393 tb_88 (fun _ _ _ => rfl) dX11_noted_57 ?_
          refine V_iload_n hX dX11_noted_60 1 rfl ?_
          obtain ⟨hi15, hP⟩ := gd_e hP
          refine V_iast hX tb_111 hi15 dX11_noted_61 (fun w16 ew16 => ?_)
          replace hP := lt_r ew16 hP
          refine V_aload_n hX dX11_noted_62 0 rfl ?_
          refine V_getF (j := 112) hX fk_X11_80 tb_88 (fun _ _ _ => rfl) dX11_noted_63 ?_
          refine V_aload_n hX dX11_noted_66 0 rfl ?_
          refine V_getI hX fk_X11_393 tb_88 (fun _ _ _ => rfl) dX11_noted_67 ?_
          refine V_iload_n hX dX11_noted_70 2 rfl ?_
          obtain ⟨hi17, hP⟩ := gd_e hP
          refine V_iast hX tb_112 hi17 dX11_noted_71 (fun w18 ew18 => ?_)
          replace hP := lt_r ew18 hP
          refine V_aload_n hX dX11_noted_72 0 rfl ?_
          refine V_getF (j := 113) hX fk_X11_83 tb_88 (fun _ _ _ => rfl) dX11_noted_73 ?_
          refine V_aload_n hX dX11_noted_76 0 rfl ?_
          refine V_getI hX fk_X11_393 tb_88 (fun _ _ _ => rfl) dX11_noted_77 ?_
          refine V_iload_n hX dX11_noted_80 3 rfl ?_
          obtain ⟨hi19, hP⟩ := gd_e hP
          refine V_iast hX tb_113 hi19 dX11_noted_81 (fun w20 ew20 => ?_)
          replace hP := lt_r ew20 hP
          refine V_aload_n hX dX11_noted_82 0 rfl ?_
          refine V_dup hX dX11_noted_83 rfl ?_
          refine V_getI hX fk_X11_393 tb_88 (fun _ _ _ => rfl) dX11_noted_84 ?_
          refine V_iconst (v := 1) hX dX11_noted_87 (by decide) ?_
          refine V_iadd hX dX11_noted_88 ?_
          refine V_putI hX fw_X11_393 tb_88 (fun _ _ _ => ⟨Nat.le_of_ble_eq_true rfl, rfl⟩) dX11_noted_89 (fun w21 ew21 => ?_)
          replace hP := lt_r ew21 hP
          refine V_aload_n hX dX11_noted_92 0 rfl ?_
          refine V_getI hX fk_X11_393 tb_88 (fun _ _ _ => rfl) dX11_noted_93 ?_
          exact hR _ _ _ _ (Option.some.inj hP) rfl dX11_noted_96
        · replace hP := ite_t hc14 hP
          refine V_iconst (v := (-1)) hX dX11_noted_50 (by decide) ?_
          exact hR _ _ _ _ (Option.some.inj hP) rfl dX11_noted_51
theorem c_X11_noted (l : Launch) (S : Sx) {r : Int32 × Wd} {F : Nat} {w : Wd} {x1 : Int32} {x2 : Int32} {x3 : Int32}  (h : P_X11_noted F w x1 x2 x3 = some r) : Met l yX11_noted (wsg yX11_noted cX11_noted 4 (some .int)) rm_X11_noted (PC S w [rf S 88, .int x1, .int x2, .int x3]) (QCi S r) 0 0 (Aw S) :=
  met_i (by decide) rfl (Nat.le_of_ble_eq_true rfl) ⟨rfl, rfl⟩ (fun X hX hR => s_X11_noted  hX hR h)

-- MustNotStopModel.forget()I
abbrev rm_X11_forget : Room := { frames := 1, cells := 0, slots := 0, locals := 64 }
theorem nk_X11_forget : MNk yX11_forget RX11 0 := ⟨rfl, by decide, by decide, by decide +kernel⟩
def P_X11_forget (F : Nat) (w : Wd)  : Option (Int32 × Wd) := lt (sI w 88 0 0) (fun w1 => lt (gI w1 88 37 : Int32) (fun x2 => lt (sI w1 88 37 0) (fun w3 => some (x2, w3))))
set_option maxRecDepth 100000 in
set_option maxHeartbeats 4000000 in
theorem s_X11_forget {X : Cx} {S : Sx} {r : Int32 × Wd} {F : Nat} {w : Wd}   (hX : Ok X S cX11_forget RX11 2 rm_X11_forget) (hR : HRt X S cX11_forget .int r) (hP : P_X11_forget F w  = some r) : V X S w 0 [(0, rf S 88)] [] := by
  unfold P_X11_forget at hP
  refine V_aload_n hX dX11_forget_0 0 rfl ?_
  refine V_iconst (v := 0) hX dX11_forget_1 (by decide) ?_
  refine V_putI hX fw_X11_102 tb_88 (fun _ _ _ => ⟨Nat.le_of_ble_eq_true rfl, rfl⟩) dX11_forget_2 (fun w1 ew1 => ?_)
  replace hP := lt_r ew1 hP
  refine V_aload_n hX dX11_forget_5 0 rfl ?_
  refine V_getI hX fk_X11_393 tb_88 (fun _ _ _ => rfl) dX11_forget_6 ?_
  refine V_topi (fun x2 ex2 => ?_)
  replace hP := lt_r ex2 hP
  refine V_istore_n (lv' := [(1, .int x2), (0, rf S 88)]) hX dX11_forget_9 (by decide) rfl ?_
  refine V_aload_n hX dX11_forget_10 1 rfl ?_
  refine V_iconst (v := 0) hX dX11_forget_11 (by decide) ?_
  refine V_putI hX fw_X11_393 tb_88 (fun _ _ _ => ⟨Nat.le_of_ble_eq_true rfl, rfl⟩) dX11_forget_12 (fun w3 ew3 => ?_)
  replace hP := lt_r ew3 hP
  refine V_iload_n hX dX11_forget_15 0 rfl ?_
  exact hR _ _ _ _ (Option.some.inj hP) rfl dX11_forget_16
theorem c_X11_forget (l : Launch) (S : Sx) {r : Int32 × Wd} {F : Nat} {w : Wd}   (h : P_X11_forget F w  = some r) : Met l yX11_forget (wsg yX11_forget cX11_forget 2 (some .int)) rm_X11_forget (PC S w [rf S 88]) (QCi S r) 0 0 (Aw S) :=
  met_i (by decide) rfl (Nat.le_of_ble_eq_true rfl) ⟨rfl, rfl⟩ (fun X hX hR => s_X11_forget  hX hR h)

-- MustNotStopModel.fits(II)Z
abbrev rm_X11_fits : Room := { frames := 5, cells := 0, slots := 0, locals := 152 }
theorem nk_X11_fits : MNk yX11_fits RX11 2 := ⟨rfl, by decide, by decide, by decide +kernel⟩
def K_X11_fits_78 (F : Nat) (x1 : Int32) (x2 : Int32) (x5 : Int32) (k86 : Wd → Int32 → Option (Int32 × Wd)) (rc : Wd → Int32 → Int32 → Option (Int32 × Wd)) (w : Wd) (x12 : Int32) (x13 : Int32) : Option (Int32 × Wd) := lt (x12 + 1 : Int32) (fun x14 => rc w x13 x14)
set_option maxRecDepth 100000 in
set_option maxHeartbeats 4000000 in
theorem sK_X11_fits_78 {X : Cx} {S : Sx} {r : Int32 × Wd} {F : Nat} {x1 : Int32} {x2 : Int32} {x5 : Int32} {k86 : Wd → Int32 → Option (Int32 × Wd)} {rc : Wd → Int32 → Int32 → Option (Int32 × Wd)} {w : Wd} {x12 : Int32} {x13 : Int32} (hX : Ok X S cX11_fits RX11 6 rm_X11_fits) (hR : HRt X S cX11_fits .boolean r)  (hk86 : ∀ (w : Wd) (x8 : Int32) , k86 w x8 = some r → V X S w 86 [(4, .int x8)] []) (hrc : ∀ (w : Wd) (x6 : Int32) (x7 : Int32) , rc w x6 x7 = some r → V X S w 19 [(0, rf S 88), (1, .int x1), (3, .int x5), (4, .int x6), (5, .int x7), (2, .int x2)] [])  (hP : K_X11_fits_78 F x1 x2 x5 k86 rc w x12 x13 = some r) : V X S w 78 [(0, rf S 88), (1, .int x1), (2, .int x2), (3, .int x5), (5, .int x12)] [.int x13] := by
  unfold K_X11_fits_78 at hP
  refine V_istore (lv' := [(4, .int x13), (0, rf S 88), (1, .int x1), (2, .int x2), (3, .int x5), (5, .int x12)]) hX dX11_fits_78 (by decide) rfl ?_
  obtain ⟨x14, ex14⟩ : ∃ y : Int32, y = x12 + 1 := ⟨_, rfl⟩
  replace hP := lt_r ex14 hP
  refine V_iinc (v := x14) (lv' := [(5, .int x14), (4, .int x13), (0, rf S 88), (1, .int x1), (2, .int x2), (3, .int x5)]) hX dX11_fits_80 (j := 5) rfl (by decide) (by rw [ex14]; rfl) rfl ?_
  refine V_goto (tgt := 19) hX dX11_fits_83 (by decide) ?_
  refine V_sub (lv' := [(0, rf S 88), (1, .int x1), (3, .int x5), (4, .int x13), (5, .int x14), (2, .int x2)]) [2, 3, 5, 1, 0, 4] rfl ?_
  exact hrc _ _ _  hP
def K_X11_fits_77 (F : Nat) (x1 : Int32) (x2 : Int32) (x5 : Int32) (k86 : Wd → Int32 → Option (Int32 × Wd)) (rc : Wd → Int32 → Int32 → Option (Int32 × Wd)) (w : Wd) (x11 : Int32) : Option (Int32 × Wd) := K_X11_fits_78 F x1 x2 x5 k86 rc w x11 0
set_option maxRecDepth 100000 in
set_option maxHeartbeats 4000000 in
theorem sK_X11_fits_77 {X : Cx} {S : Sx} {r : Int32 × Wd} {F : Nat} {x1 : Int32} {x2 : Int32} {x5 : Int32} {k86 : Wd → Int32 → Option (Int32 × Wd)} {rc : Wd → Int32 → Int32 → Option (Int32 × Wd)} {w : Wd} {x11 : Int32} (hX : Ok X S cX11_fits RX11 6 rm_X11_fits) (hR : HRt X S cX11_fits .boolean r)  (hk86 : ∀ (w : Wd) (x8 : Int32) , k86 w x8 = some r → V X S w 86 [(4, .int x8)] []) (hrc : ∀ (w : Wd) (x6 : Int32) (x7 : Int32) , rc w x6 x7 = some r → V X S w 19 [(0, rf S 88), (1, .int x1), (3, .int x5), (4, .int x6), (5, .int x7), (2, .int x2)] [])  (hP : K_X11_fits_77 F x1 x2 x5 k86 rc w x11 = some r) : V X S w 77 [(0, rf S 88), (1, .int x1), (2, .int x2), (3, .int x5), (5, .int x11)] [] := by
  unfold K_X11_fits_77 at hP
  refine V_iconst (v := 0) hX dX11_fits_77 (by decide) ?_
  exact sK_X11_fits_78 hX hR  hk86 hrc  hP
def K_X11_fits_73 (F : Nat) (x1 : Int32) (x2 : Int32) (x5 : Int32) (k86 : Wd → Int32 → Option (Int32 × Wd)) (rc : Wd → Int32 → Int32 → Option (Int32 × Wd)) (w : Wd) (x17 : Int32) : Option (Int32 × Wd) := K_X11_fits_78 F x1 x2 x5 k86 rc w x17 1
set_option maxRecDepth 100000 in
set_option maxHeartbeats 4000000 in
theorem sK_X11_fits_73 {X : Cx} {S : Sx} {r : Int32 × Wd} {F : Nat} {x1 : Int32} {x2 : Int32} {x5 : Int32} {k86 : Wd → Int32 → Option (Int32 × Wd)} {rc : Wd → Int32 → Int32 → Option (Int32 × Wd)} {w : Wd} {x17 : Int32} (hX : Ok X S cX11_fits RX11 6 rm_X11_fits) (hR : HRt X S cX11_fits .boolean r)  (hk86 : ∀ (w : Wd) (x8 : Int32) , k86 w x8 = some r → V X S w 86 [(4, .int x8)] []) (hrc : ∀ (w : Wd) (x6 : Int32) (x7 : Int32) , rc w x6 x7 = some r → V X S w 19 [(0, rf S 88), (1, .int x1), (3, .int x5), (4, .int x6), (5, .int x7), (2, .int x2)] [])  (hP : K_X11_fits_73 F x1 x2 x5 k86 rc w x17 = some r) : V X S w 73 [(0, rf S 88), (1, .int x1), (2, .int x2), (3, .int x5), (5, .int x17)] [] := by
  unfold K_X11_fits_73 at hP
  refine V_iconst (v := 1) hX dX11_fits_73 (by decide) ?_
  refine V_goto (tgt := 78) hX dX11_fits_74 (by decide) ?_
  exact sK_X11_fits_78 hX hR  hk86 hrc  hP
def L_X11_fits_19 (F : Nat) (x1 : Int32) (x2 : Int32) (x5 : Int32) (k86 : Wd → Int32 → Option (Int32 × Wd)) : Nat → Wd → Int32 → Int32 → Option (Int32 × Wd)
  | 0, _, _, _ => none
  | n + 1, w, x6, x7 => (if (gI w 88 37) ≤ x7 then k86 w x6 else (if x6 = 0 then K_X11_fits_77 F x1 x2 x5 k86 ((L_X11_fits_19 F x1 x2 x5 k86 n)) w x7 else gd (inB x7 12) ((if (gI w 111 x7.toNatClampNeg) = x1 then gd (inB x7 12) (lt (if x5 < (gI w 112 x7.toNatClampNeg) then 0 else 1 : Int32) (fun x20 => bnd (P_X11_flag F w x20) (fun x22 w21 => gd (inB x7 12) (lt (if x22 = (gI w21 113 x7.toNatClampNeg) then 1 else 0 : Int32) (fun x25 => lt (x7 + 1 : Int32) (fun x26 => L_X11_fits_19 F x1 x2 x5 k86 n w21 x25 x26)))))) else K_X11_fits_73 F x1 x2 x5 k86 ((L_X11_fits_19 F x1 x2 x5 k86 n)) w x7))))
set_option maxRecDepth 100000 in
set_option maxHeartbeats 4000000 in
theorem sL_X11_fits_19 {X : Cx} {S : Sx} {r : Int32 × Wd} {F : Nat} {x1 : Int32} {x2 : Int32} {x5 : Int32} {k86 : Wd → Int32 → Option (Int32 × Wd)} (hX : Ok X S cX11_fits RX11 6 rm_X11_fits) (hR : HRt X S cX11_fits .boolean r)  (hk86 : ∀ (w : Wd) (x8 : Int32) , k86 w x8 = some r → V X S w 86 [(4, .int x8)] []) : ∀ (n : Nat) (w : Wd) (x6 : Int32) (x7 : Int32) , L_X11_fits_19 F x1 x2 x5 k86 n w x6 x7 = some r → V X S w 19 [(0, rf S 88), (1, .int x1), (3, .int x5), (4, .int x6), (5, .int x7), (2, .int x2)] [] := by
  intro n
  induction n with
  | zero =>
    intro w x6 x7  hP
    exact nn hP
  | succ n ih =>
    intro w x6 x7  hP
    rw [L_X11_fits_19] at hP
    refine V_iload hX dX11_fits_19 4 rfl ?_
    refine V_aload_n hX dX11_fits_21 0 rfl ?_
    refine V_getI hX fk_X11_393 tb_88 (fun _ _ _ => rfl) dX11_fits_22 ?_
    refine V_icmp_ge (tgt := 86) hX dX11_fits_25 (by decide) (fun hc9 => ?_) (fun hc9 => ?_)
    · replace hP := ite_t hc9 hP
      refine V_sub (lv' := [(4, .int x6)]) [3] rfl ?_
      exact hk86 _ _  hP
    · replace hP := ite_f hc9 hP
      refine V_iload hX dX11_fits_28 3 rfl ?_
      refine V_if_eq (tgt := 77) hX dX11_fits_30 (by decide) (fun hc10 => ?_) (fun hc10 => ?_)
      · replace hP := ite_t hc10 hP
        refine V_sub (lv' := [(0, rf S 88), (1, .int x1), (2, .int x2), (3, .int x5), (5, .int x7)]) [0, 1, 5, 2, 4] rfl ?_
        exact sK_X11_fits_77 hX hR  hk86 ih  hP
      · replace hP := ite_f hc10 hP
        refine V_aload_n hX dX11_fits_33 0 rfl ?_
        refine V_getF (j := 111) hX fk_X11_77 tb_88 (fun _ _ _ => rfl) dX11_fits_34 ?_
        refine V_iload hX dX11_fits_37 4 rfl ?_
        obtain ⟨hi15, hP⟩ := gd_e hP
        refine V_iald hX tb_111 hi15 dX11_fits_39 ?_
        refine V_iload_n hX dX11_fits_40 1 rfl ?_
        refine V_icmp_ne (tgt := 73) hX dX11_fits_41 (by decide) (fun hc16 => ?_) (fun hc16 => ?_)
        · replace hP := ite_f hc16 hP
          refine V_sub (lv' := [(0, rf S 88), (1, .int x1), (2, .int x2), (3, .int x5), (5, .int x7)]) [0, 1, 5, 2, 4] rfl ?_
          exact sK_X11_fits_73 hX hR  hk86 ih  hP
        · replace hP := ite_t hc16 hP
          refine V_iload_n hX dX11_fits_44 2 rfl ?_
          refine V_aload_n hX dX11_fits_45 0 rfl ?_
          refine V_getF (j := 112) hX fk_X11_80 tb_88 (fun _ _ _ => rfl) dX11_fits_46 ?_
          refine V_iload hX dX11_fits_49 4 rfl ?_
          obtain ⟨hi18, hP⟩ := gd_e hP
          refine V_iald hX tb_112 hi18 dX11_fits_51 ?_
          have k28 : V X S w 60 [(0, rf S 88), (1, .int x1), (3, .int x5), (4, .int x6), (5, .int x7), (2, .int x2)] [.int (if x5 < (gI w 112 x7.toNatClampNeg) then 0 else 1)] := by
            refine V_topi (fun x20 ex20 => ?_)
            replace hP := lt_r ex20 hP
            obtain ⟨x22, w21, hcw21, hP⟩ := bnd_e hP
            refine V_callSi (As := [.int x20]) (rest := []) hX mk_X11_138 nk_X11_flag (fun l => c_X11_flag l S  hcw21) ⟨rfl, rfl, Nat.le_of_ble_eq_true rfl, Nat.le_of_ble_eq_true rfl⟩ rfl rfl (Nat.le_of_ble_eq_true rfl) dX11_fits_60 ?_
            refine V_aload_n hX dX11_fits_63 0 rfl ?_
            refine V_getF (j := 113) hX fk_X11_83 tb_88 (fun _ _ _ => rfl) dX11_fits_64 ?_
            refine V_iload hX dX11_fits_67 4 rfl ?_
            obtain ⟨hi23, hP⟩ := gd_e hP
            refine V_iald hX tb_113 hi23 dX11_fits_69 ?_
            have k27 : V X S w21 78 [(0, rf S 88), (1, .int x1), (3, .int x5), (4, .int x6), (5, .int x7), (2, .int x2)] [.int (if x22 = (gI w21 113 x7.toNatClampNeg) then 1 else 0)] := by
              refine V_topi (fun x25 ex25 => ?_)
              replace hP := lt_r ex25 hP
              refine V_istore (lv' := [(4, .int x25), (0, rf S 88), (1, .int x1), (3, .int x5), (5, .int x7), (2, .int x2)]) hX dX11_fits_78 (by decide) rfl ?_
              obtain ⟨x26, ex26⟩ : ∃ y : Int32, y = x7 + 1 := ⟨_, rfl⟩
              replace hP := lt_r ex26 hP
              refine V_iinc (v := x26) (lv' := [(5, .int x26), (4, .int x25), (0, rf S 88), (1, .int x1), (3, .int x5), (2, .int x2)]) hX dX11_fits_80 (j := 4) rfl (by decide) (by rw [ex26]; rfl) rfl ?_
              refine V_goto (tgt := 19) hX dX11_fits_83 (by decide) ?_
              refine V_sub (lv' := [(0, rf S 88), (1, .int x1), (3, .int x5), (4, .int x25), (5, .int x26), (2, .int x2)]) [2, 3, 4, 1, 0, 5] rfl ?_
              exact ih _ _ _  hP
            refine V_icmp_ne (tgt := 77) hX dX11_fits_70 (by decide) (fun hc24 => ?_) (fun hc24 => ?_)
            · refine V_iconst (v := 0) hX dX11_fits_77 (by decide) ?_
              refine V_selF (c := x22 = (gI w21 113 x7.toNatClampNeg)) (a := 1) hc24 ?_
              exact k27
            · refine V_iconst (v := 1) hX dX11_fits_73 (by decide) ?_
              refine V_goto (tgt := 78) hX dX11_fits_74 (by decide) ?_
              refine V_selT (c := x22 = (gI w21 113 x7.toNatClampNeg)) (b := 0) hc24 ?_
              exact k27
          refine V_icmp_lt (tgt := 59) hX dX11_fits_52 (by decide) (fun hc19 => ?_) (fun hc19 => ?_)
          · refine V_iconst (v := 0) hX dX11_fits_59 (by decide) ?_
            refine V_selT (c := x5 < (gI w 112 x7.toNatClampNeg)) (b := 1) hc19 ?_
            exact k28
          · refine V_iconst (v := 1) hX dX11_fits_55 (by decide) ?_
            refine V_goto (tgt := 60) hX dX11_fits_56 (by decide) ?_
            refine V_selF (c := x5 < (gI w 112 x7.toNatClampNeg)) (a := 0) hc19 ?_
            exact k28
def P_X11_fits (F : Nat) (w : Wd) (x1 : Int32) (x2 : Int32) : Option (Int32 × Wd) := bnd (P_X11_loudBy F w 95 (ishlI 1 x2) 0) (fun x4 w3 => L_X11_fits_19 F x1 x2 x4 (fun w x8 => gd (isZO x8) (some (x8, w))) F w3 1 0)
set_option maxRecDepth 100000 in
set_option maxHeartbeats 4000000 in
theorem s_X11_fits {X : Cx} {S : Sx} {r : Int32 × Wd} {F : Nat} {w : Wd} {x1 : Int32} {x2 : Int32}  (hX : Ok X S cX11_fits RX11 6 rm_X11_fits) (hR : HRt X S cX11_fits .boolean r) (hP : P_X11_fits F w x1 x2 = some r) : V X S w 0 [(0, rf S 88), (1, .int x1), (2, .int x2)] [] := by
  unfold P_X11_fits at hP
  refine V_aload_n hX dX11_fits_0 0 rfl ?_
  refine V_aload_n hX dX11_fits_1 0 rfl ?_
  refine V_getF (j := 95) hX fk_X11_29 tb_88 (fun _ _ _ => rfl) dX11_fits_2 ?_
  refine V_iconst (v := 1) hX dX11_fits_5 (by decide) ?_
  refine V_iload_n hX dX11_fits_6 2 rfl ?_
  refine V_ishl hX dX11_fits_7 ?_
  refine V_iconst (v := 0) hX dX11_fits_8 (by decide) ?_
  obtain ⟨x4, w3, hcw3, hP⟩ := bnd_e hP
  refine V_callVi (As := [rf S 95, .int (ishlI 1 x2), .int 0]) (rest := []) hX mk_X11_256 nk_X11_loudBy (fun l => c_X11_loudBy l S (by decide) hcw3) tb_88 rfl ⟨rfl, rfl, Nat.le_of_ble_eq_true rfl, Nat.le_of_ble_eq_true rfl⟩ rfl rfl (Nat.le_of_ble_eq_true rfl) dX11_fits_9 ?_
  refine V_istore_n (lv' := [(3, .int x4), (0, rf S 88), (1, .int x1), (2, .int x2)]) hX dX11_fits_12 (by decide) rfl ?_
  refine V_iconst (v := 1) hX dX11_fits_13 (by decide) ?_
  refine V_istore (lv' := [(4, .int 1), (3, .int x4), (0, rf S 88), (1, .int x1), (2, .int x2)]) hX dX11_fits_14 (by decide) rfl ?_
  refine V_iconst (v := 0) hX dX11_fits_16 (by decide) ?_
  refine V_istore (lv' := [(5, .int 0), (4, .int 1), (3, .int x4), (0, rf S 88), (1, .int x1), (2, .int x2)]) hX dX11_fits_17 (by decide) rfl ?_
  refine V_sub (lv' := [(0, rf S 88), (1, .int x1), (3, .int x4), (4, .int 1), (5, .int 0), (2, .int x2)]) [3, 4, 2, 1, 0, 5] rfl ?_
  have k30 : ∀ (w : Wd) (x8 : Int32) , (gd (isZO x8) (some (x8, w))) = some r → V X S w 86 [(4, .int x8)] [] := by
    intro w x8  hP
    refine V_iload hX dX11_fits_86 0 rfl ?_
    obtain ⟨hz29, hP⟩ := gd_e hP
    exact hR _ _ _ _ (Option.some.inj hP) (nar_z hz29) dX11_fits_88
  exact sL_X11_fits_19 hX hR  k30 F _ _ _  hP
theorem c_X11_fits (l : Launch) (S : Sx) {r : Int32 × Wd} {F : Nat} {w : Wd} {x1 : Int32} {x2 : Int32}  (h : P_X11_fits F w x1 x2 = some r) : Met l yX11_fits (wsg yX11_fits cX11_fits 6 (some .boolean)) rm_X11_fits (PC S w [rf S 88, .int x1, .int x2]) (QCi S r) 0 0 (Aw S) :=
  met_i (by decide) rfl (Nat.le_of_ble_eq_true rfl) ⟨rfl, rfl⟩ (fun X hX hR => s_X11_fits  hX hR h)

-- MustNotStopModel.laysRows()V
abbrev rm_X11_laysRows : Room := { frames := 6, cells := 0, slots := 0, locals := 177 }
theorem nk_X11_laysRows : MNk yX11_laysRows RX11 0 := ⟨rfl, by decide, by decide, by decide +kernel⟩
def K_X11_laysRows_72 (F : Nat) (x3 : Int32) (x10 : Int32) (k80 : Wd → Int32 → Option (Wd)) (rc : Wd → Int32 → Int32 → Option (Wd)) (w : Wd) (x18 : Int32) (x19 : Int32) (x20 : Int32) : Option (Wd) := lt (x20 + x19 : Int32) (fun x21 => lt (x18 + 1 : Int32) (fun x22 => rc w x21 x22))
set_option maxRecDepth 100000 in
set_option maxHeartbeats 4000000 in
theorem sK_X11_laysRows_72 {X : Cx} {S : Sx} {r : Wd} {F : Nat} {x3 : Int32} {x10 : Int32} {k80 : Wd → Int32 → Option (Wd)} {rc : Wd → Int32 → Int32 → Option (Wd)} {w : Wd} {x18 : Int32} {x19 : Int32} {x20 : Int32} (hX : Ok X S cX11_laysRows RX11 5 rm_X11_laysRows) (hR : HRv X S cX11_laysRows r)  (hk80 : ∀ (w : Wd) (x13 : Int32) , k80 w x13 = some r → V X S w 80 [(0, rf S 88), (1, .int x3), (2, .int x10), (3, .int x13)] []) (hrc : ∀ (w : Wd) (x11 : Int32) (x12 : Int32) , rc w x11 x12 = some r → V X S w 33 [(0, rf S 88), (1, .int x3), (2, .int x10), (3, .int x11), (4, .int x12)] [])  (hP : K_X11_laysRows_72 F x3 x10 k80 rc w x18 x19 x20 = some r) : V X S w 72 [(0, rf S 88), (1, .int x3), (2, .int x10), (4, .int x18)] [.int x19, .int x20] := by
  unfold K_X11_laysRows_72 at hP
  refine V_iadd hX dX11_laysRows_72 ?_
  refine V_topi (fun x21 ex21 => ?_)
  replace hP := lt_r ex21 hP
  refine V_istore_n (lv' := [(3, .int x21), (0, rf S 88), (1, .int x3), (2, .int x10), (4, .int x18)]) hX dX11_laysRows_73 (by decide) rfl ?_
  obtain ⟨x22, ex22⟩ : ∃ y : Int32, y = x18 + 1 := ⟨_, rfl⟩
  replace hP := lt_r ex22 hP
  refine V_iinc (v := x22) (lv' := [(4, .int x22), (3, .int x21), (0, rf S 88), (1, .int x3), (2, .int x10)]) hX dX11_laysRows_74 (j := 4) rfl (by decide) (by rw [ex22]; rfl) rfl ?_
  refine V_goto (tgt := 33) hX dX11_laysRows_77 (by decide) ?_
  refine V_sub (lv' := [(0, rf S 88), (1, .int x3), (2, .int x10), (3, .int x21), (4, .int x22)]) [2, 3, 4, 1, 0] rfl ?_
  exact hrc _ _ _  hP
def L_X11_laysRows_33 (F : Nat) (x3 : Int32) (x10 : Int32) (k80 : Wd → Int32 → Option (Wd)) : Nat → Wd → Int32 → Int32 → Option (Wd)
  | 0, _, _, _ => none
  | n + 1, w, x11, x12 => (if (gI w 88 3) ≤ x12 then k80 w x11 else (if (5 : Int32) ≤ x3 then k80 w x11 else (if x12 = x10 then K_X11_laysRows_72 F x3 x10 k80 ((L_X11_laysRows_33 F x3 x10 k80 n)) w x12 0 x11 else gd (inB ((8 * (x3 + 1)) + x12) 48) (K_X11_laysRows_72 F x3 x10 k80 ((L_X11_laysRows_33 F x3 x10 k80 n)) w x12 (gI w 114 ((8 * (x3 + 1)) + x12).toNatClampNeg) x11))))
set_option maxRecDepth 100000 in
set_option maxHeartbeats 4000000 in
theorem sL_X11_laysRows_33 {X : Cx} {S : Sx} {r : Wd} {F : Nat} {x3 : Int32} {x10 : Int32} {k80 : Wd → Int32 → Option (Wd)} (hX : Ok X S cX11_laysRows RX11 5 rm_X11_laysRows) (hR : HRv X S cX11_laysRows r)  (hk80 : ∀ (w : Wd) (x13 : Int32) , k80 w x13 = some r → V X S w 80 [(0, rf S 88), (1, .int x3), (2, .int x10), (3, .int x13)] []) : ∀ (n : Nat) (w : Wd) (x11 : Int32) (x12 : Int32) , L_X11_laysRows_33 F x3 x10 k80 n w x11 x12 = some r → V X S w 33 [(0, rf S 88), (1, .int x3), (2, .int x10), (3, .int x11), (4, .int x12)] [] := by
  intro n
  induction n with
  | zero =>
    intro w x11 x12  hP
    exact nn hP
  | succ n ih =>
    intro w x11 x12  hP
    rw [L_X11_laysRows_33] at hP
    refine V_iload hX dX11_laysRows_33 4 rfl ?_
    refine V_aload_n hX dX11_laysRows_35 0 rfl ?_
    refine V_getI hX fk_X11_113 tb_88 (fun _ _ _ => rfl) dX11_laysRows_36 ?_
    refine V_icmp_ge (tgt := 80) hX dX11_laysRows_39 (by decide) (fun hc14 => ?_) (fun hc14 => ?_)
    · replace hP := ite_t hc14 hP
      refine V_sub (lv' := [(0, rf S 88), (1, .int x3), (2, .int x10), (3, .int x11)]) [0, 1, 2, 3] rfl ?_
      exact hk80 _ _  hP
    · replace hP := ite_f hc14 hP
      refine V_iload_n hX dX11_laysRows_42 1 rfl ?_
      refine V_iconst (v := 5) hX dX11_laysRows_43 (by decide) ?_
      refine V_icmp_ge (tgt := 80) hX dX11_laysRows_44 (by decide) (fun hc15 => ?_) (fun hc15 => ?_)
      · replace hP := ite_t hc15 hP
        refine V_sub (lv' := [(0, rf S 88), (1, .int x3), (2, .int x10), (3, .int x11)]) [0, 1, 2, 3] rfl ?_
        exact hk80 _ _  hP
      · replace hP := ite_f hc15 hP
        refine V_iload_n hX dX11_laysRows_47 3 rfl ?_
        refine V_iload hX dX11_laysRows_48 4 rfl ?_
        refine V_iload_n hX dX11_laysRows_50 2 rfl ?_
        refine V_icmp_ne (tgt := 58) hX dX11_laysRows_51 (by decide) (fun hc16 => ?_) (fun hc16 => ?_)
        · replace hP := ite_f hc16 hP
          refine V_aload_n hX dX11_laysRows_58 0 rfl ?_
          refine V_getF (j := 114) hX fk_X11_86 tb_88 (fun _ _ _ => rfl) dX11_laysRows_59 ?_
          refine V_bipush (v := 8) hX dX11_laysRows_62 (by decide) ?_
          refine V_iload_n hX dX11_laysRows_64 1 rfl ?_
          refine V_iconst (v := 1) hX dX11_laysRows_65 (by decide) ?_
          refine V_iadd hX dX11_laysRows_66 ?_
          refine V_imul hX dX11_laysRows_67 ?_
          refine V_iload hX dX11_laysRows_68 4 rfl ?_
          refine V_iadd hX dX11_laysRows_70 ?_
          obtain ⟨hi17, hP⟩ := gd_e hP
          refine V_iald hX tb_114 hi17 dX11_laysRows_71 ?_
          refine V_sub (lv' := [(0, rf S 88), (1, .int x3), (2, .int x10), (4, .int x12)]) [0, 1, 2, 4] rfl ?_
          exact sK_X11_laysRows_72 hX hR  hk80 ih  hP
        · replace hP := ite_t hc16 hP
          refine V_iconst (v := 0) hX dX11_laysRows_54 (by decide) ?_
          refine V_goto (tgt := 72) hX dX11_laysRows_55 (by decide) ?_
          refine V_sub (lv' := [(0, rf S 88), (1, .int x3), (2, .int x10), (4, .int x12)]) [0, 1, 2, 4] rfl ?_
          exact sK_X11_laysRows_72 hX hR  hk80 ih  hP
def K_X11_laysRows_80 (F : Nat) (x3 : Int32) (k111 : Wd → Option (Wd)) (rc : Wd → Int32 → Option (Wd)) (w : Wd) (x23 : Int32) (x24 : Int32) : Option (Wd) := bnd (P_X11_fits F w x3 x23) (fun x26 w25 => lt (if x26 = 0 then 0 else x24 : Int32) (fun x28 => gd (inB ((8 * x3) + x23) 48) (lt (sI w25 114 ((8 * x3) + x23).toNatClampNeg x28) (fun w30 => lt (x23 + 1 : Int32) (fun x31 => rc w30 x31)))))
set_option maxRecDepth 100000 in
set_option maxHeartbeats 4000000 in
theorem sK_X11_laysRows_80 {X : Cx} {S : Sx} {r : Wd} {F : Nat} {x3 : Int32} {k111 : Wd → Option (Wd)} {rc : Wd → Int32 → Option (Wd)} {w : Wd} {x23 : Int32} {x24 : Int32} (hX : Ok X S cX11_laysRows RX11 5 rm_X11_laysRows) (hR : HRv X S cX11_laysRows r)  (hk111 : ∀ (w : Wd), k111 w = some r → V X S w 111 [(0, rf S 88), (1, .int x3)] []) (hrc : ∀ (w : Wd) (x4 : Int32) , rc w x4 = some r → V X S w 8 [(0, rf S 88), (1, .int x3), (2, .int x4)] [])  (hP : K_X11_laysRows_80 F x3 k111 rc w x23 x24 = some r) : V X S w 80 [(0, rf S 88), (1, .int x3), (2, .int x23), (3, .int x24)] [] := by
  unfold K_X11_laysRows_80 at hP
  refine V_aload_n hX dX11_laysRows_80 0 rfl ?_
  refine V_getF (j := 114) hX fk_X11_86 tb_88 (fun _ _ _ => rfl) dX11_laysRows_81 ?_
  refine V_bipush (v := 8) hX dX11_laysRows_84 (by decide) ?_
  refine V_iload_n hX dX11_laysRows_86 1 rfl ?_
  refine V_imul hX dX11_laysRows_87 ?_
  refine V_iload_n hX dX11_laysRows_88 2 rfl ?_
  refine V_iadd hX dX11_laysRows_89 ?_
  refine V_aload_n hX dX11_laysRows_90 0 rfl ?_
  refine V_iload_n hX dX11_laysRows_91 1 rfl ?_
  refine V_iload_n hX dX11_laysRows_92 2 rfl ?_
  obtain ⟨x26, w25, hcw25, hP⟩ := bnd_e hP
  refine V_callVi (As := [.int x3, .int x23]) (rest := [.int ((8 * x3) + x23), rf S 114]) hX mk_X11_396 nk_X11_fits (fun l => c_X11_fits l S  hcw25) tb_88 rfl ⟨rfl, rfl, Nat.le_of_ble_eq_true rfl, Nat.le_of_ble_eq_true rfl⟩ rfl rfl (Nat.le_of_ble_eq_true rfl) dX11_laysRows_93 ?_
  have k32 : V X S w25 104 [(0, rf S 88), (1, .int x3), (2, .int x23), (3, .int x24)] [.int (if x26 = 0 then 0 else x24), .int ((8 * x3) + x23), rf S 114] := by
    refine V_topi (fun x28 ex28 => ?_)
    replace hP := lt_r ex28 hP
    obtain ⟨hi29, hP⟩ := gd_e hP
    refine V_iast hX tb_114 hi29 dX11_laysRows_104 (fun w30 ew30 => ?_)
    replace hP := lt_r ew30 hP
    obtain ⟨x31, ex31⟩ : ∃ y : Int32, y = x23 + 1 := ⟨_, rfl⟩
    replace hP := lt_r ex31 hP
    refine V_iinc (v := x31) (lv' := [(2, .int x31), (0, rf S 88), (1, .int x3), (3, .int x24)]) hX dX11_laysRows_105 (j := 2) rfl (by decide) (by rw [ex31]; rfl) rfl ?_
    refine V_goto (tgt := 8) hX dX11_laysRows_108 (by decide) ?_
    refine V_sub (lv' := [(0, rf S 88), (1, .int x3), (2, .int x31)]) [1, 2, 0] rfl ?_
    exact hrc _ _  hP
  refine V_if_eq (tgt := 103) hX dX11_laysRows_96 (by decide) (fun hc27 => ?_) (fun hc27 => ?_)
  · refine V_iconst (v := 0) hX dX11_laysRows_103 (by decide) ?_
    refine V_selT (c := x26 = 0) (b := x24) hc27 ?_
    exact k32
  · refine V_iload_n hX dX11_laysRows_99 3 rfl ?_
    refine V_goto (tgt := 104) hX dX11_laysRows_100 (by decide) ?_
    refine V_selF (c := x26 = 0) (a := 0) hc27 ?_
    exact k32
def L_X11_laysRows_8 (F : Nat) (x3 : Int32) (k111 : Wd → Option (Wd)) : Nat → Wd → Int32 → Option (Wd)
  | 0, _, _ => none
  | n + 1, w, x4 => (if (gI w 88 3) ≤ x4 then k111 w  else lt (if x3 = 5 then 1 else 0 : Int32) (fun x7 => bnd (P_X11_flag F w x7) (fun x9 w8 => L_X11_laysRows_33 F x3 x4 (fun w x13 => K_X11_laysRows_80 F x3 k111 ((L_X11_laysRows_8 F x3 k111 n)) w x4 x13) F w8 x9 0)))
set_option maxRecDepth 100000 in
set_option maxHeartbeats 4000000 in
theorem sL_X11_laysRows_8 {X : Cx} {S : Sx} {r : Wd} {F : Nat} {x3 : Int32} {k111 : Wd → Option (Wd)} (hX : Ok X S cX11_laysRows RX11 5 rm_X11_laysRows) (hR : HRv X S cX11_laysRows r)  (hk111 : ∀ (w : Wd), k111 w = some r → V X S w 111 [(0, rf S 88), (1, .int x3)] []) : ∀ (n : Nat) (w : Wd) (x4 : Int32) , L_X11_laysRows_8 F x3 k111 n w x4 = some r → V X S w 8 [(0, rf S 88), (1, .int x3), (2, .int x4)] [] := by
  intro n
  induction n with
  | zero =>
    intro w x4  hP
    exact nn hP
  | succ n ih =>
    intro w x4  hP
    rw [L_X11_laysRows_8] at hP
    refine V_iload_n hX dX11_laysRows_8 2 rfl ?_
    refine V_aload_n hX dX11_laysRows_9 0 rfl ?_
    refine V_getI hX fk_X11_113 tb_88 (fun _ _ _ => rfl) dX11_laysRows_10 ?_
    refine V_icmp_ge (tgt := 111) hX dX11_laysRows_13 (by decide) (fun hc5 => ?_) (fun hc5 => ?_)
    · replace hP := ite_t hc5 hP
      refine V_sub (lv' := [(0, rf S 88), (1, .int x3)]) [0, 1] rfl ?_
      exact hk111 _   hP
    · replace hP := ite_f hc5 hP
      refine V_iload_n hX dX11_laysRows_16 1 rfl ?_
      refine V_iconst (v := 5) hX dX11_laysRows_17 (by decide) ?_
      have k34 : V X S w 26 [(0, rf S 88), (1, .int x3), (2, .int x4)] [.int (if x3 = 5 then 1 else 0)] := by
        refine V_topi (fun x7 ex7 => ?_)
        replace hP := lt_r ex7 hP
        obtain ⟨x9, w8, hcw8, hP⟩ := bnd_e hP
        refine V_callSi (As := [.int x7]) (rest := []) hX mk_X11_138 nk_X11_flag (fun l => c_X11_flag l S  hcw8) ⟨rfl, rfl, Nat.le_of_ble_eq_true rfl, Nat.le_of_ble_eq_true rfl⟩ rfl rfl (Nat.le_of_ble_eq_true rfl) dX11_laysRows_26 ?_
        refine V_istore_n (lv' := [(3, .int x9), (0, rf S 88), (1, .int x3), (2, .int x4)]) hX dX11_laysRows_29 (by decide) rfl ?_
        refine V_iconst (v := 0) hX dX11_laysRows_30 (by decide) ?_
        refine V_istore (lv' := [(4, .int 0), (3, .int x9), (0, rf S 88), (1, .int x3), (2, .int x4)]) hX dX11_laysRows_31 (by decide) rfl ?_
        refine V_sub (lv' := [(0, rf S 88), (1, .int x3), (2, .int x4), (3, .int x9), (4, .int 0)]) [2, 3, 4, 1, 0] rfl ?_
        have k33 : ∀ (w : Wd) (x13 : Int32) , (K_X11_laysRows_80 F x3 k111 ((L_X11_laysRows_8 F x3 k111 n)) w x4 x13) = some r → V X S w 80 [(0, rf S 88), (1, .int x3), (2, .int x4), (3, .int x13)] [] := by
          intro w x13  hP
          exact sK_X11_laysRows_80 hX hR  hk111 ih  hP
        exact sL_X11_laysRows_33 hX hR  k33 F _ _ _  hP
      refine V_icmp_ne (tgt := 25) hX dX11_laysRows_18 (by decide) (fun hc6 => ?_) (fun hc6 => ?_)
      · refine V_iconst (v := 0) hX dX11_laysRows_25 (by decide) ?_
        refine V_selF (c := x3 = 5) (a := 1) hc6 ?_
        exact k34
      · refine V_iconst (v := 1) hX dX11_laysRows_21 (by decide) ?_
        refine V_goto (tgt := 26) hX dX11_laysRows_22 (by decide) ?_
        refine V_selT (c := x3 = 5) (b := 0) hc6 ?_
        exact k34
def L_X11_laysRows_2 (F : Nat)  (k117 : Wd → Option (Wd)) : Nat → Wd → Int32 → Option (Wd)
  | 0, _, _ => none
  | n + 1, w, x1 => (if x1 < 0 then k117 w  else L_X11_laysRows_8 F x1 (fun w  => lt (x1 + (-1) : Int32) (fun x35 => L_X11_laysRows_2 F  k117 n w x35)) F w 0)
set_option maxRecDepth 100000 in
set_option maxHeartbeats 4000000 in
theorem sL_X11_laysRows_2 {X : Cx} {S : Sx} {r : Wd} {F : Nat}  {k117 : Wd → Option (Wd)} (hX : Ok X S cX11_laysRows RX11 5 rm_X11_laysRows) (hR : HRv X S cX11_laysRows r)  (hk117 : ∀ (w : Wd), k117 w = some r → V X S w 117 [(0, rf S 88)] []) : ∀ (n : Nat) (w : Wd) (x1 : Int32) , L_X11_laysRows_2 F  k117 n w x1 = some r → V X S w 2 [(0, rf S 88), (1, .int x1)] [] := by
  intro n
  induction n with
  | zero =>
    intro w x1  hP
    exact nn hP
  | succ n ih =>
    intro w x1  hP
    rw [L_X11_laysRows_2] at hP
    refine V_iload_n hX dX11_laysRows_2 1 rfl ?_
    refine V_if_lt (tgt := 117) hX dX11_laysRows_3 (by decide) (fun hc2 => ?_) (fun hc2 => ?_)
    · replace hP := ite_t hc2 hP
      refine V_sub (lv' := [(0, rf S 88)]) [0] rfl ?_
      exact hk117 _   hP
    · replace hP := ite_f hc2 hP
      refine V_iconst (v := 0) hX dX11_laysRows_6 (by decide) ?_
      refine V_istore_n (lv' := [(2, .int 0), (0, rf S 88), (1, .int x1)]) hX dX11_laysRows_7 (by decide) rfl ?_
      refine V_sub (lv' := [(0, rf S 88), (1, .int x1), (2, .int 0)]) [1, 2, 0] rfl ?_
      have k36 : ∀ (w : Wd)  , (lt (x1 + (-1) : Int32) (fun x35 => L_X11_laysRows_2 F  k117 n w x35)) = some r → V X S w 111 [(0, rf S 88), (1, .int x1)] [] := by
        intro w   hP
        obtain ⟨x35, ex35⟩ : ∃ y : Int32, y = x1 + (-1) := ⟨_, rfl⟩
        replace hP := lt_r ex35 hP
        refine V_iinc (v := x35) (lv' := [(1, .int x35), (0, rf S 88)]) hX dX11_laysRows_111 (j := 1) rfl (by decide) (by rw [ex35]; rfl) rfl ?_
        refine V_goto (tgt := 2) hX dX11_laysRows_114 (by decide) ?_
        refine V_sub (lv' := [(0, rf S 88), (1, .int x35)]) [1, 0] rfl ?_
        exact ih _ _  hP
      exact sL_X11_laysRows_8 hX hR  k36 F _ _  hP
def K_X11_laysRows_193 (F : Nat) (x39 : Int32) (x44 : Int32) (k200 : Wd → Int32 → Option (Wd)) (rc : Wd → Int32 → Int32 → Option (Wd)) (w : Wd) (x52 : Int32) (x53 : Int32) : Option (Wd) := lt (x52 + 1 : Int32) (fun x54 => rc w x53 x54)
set_option maxRecDepth 100000 in
set_option maxHeartbeats 4000000 in
theorem sK_X11_laysRows_193 {X : Cx} {S : Sx} {r : Wd} {F : Nat} {x39 : Int32} {x44 : Int32} {k200 : Wd → Int32 → Option (Wd)} {rc : Wd → Int32 → Int32 → Option (Wd)} {w : Wd} {x52 : Int32} {x53 : Int32} (hX : Ok X S cX11_laysRows RX11 5 rm_X11_laysRows) (hR : HRv X S cX11_laysRows r)  (hk200 : ∀ (w : Wd) (x47 : Int32) , k200 w x47 = some r → V X S w 200 [(0, rf S 88), (1, .int x39), (2, .int x44), (3, .int x47)] []) (hrc : ∀ (w : Wd) (x45 : Int32) (x46 : Int32) , rc w x45 x46 = some r → V X S w 148 [(0, rf S 88), (1, .int x39), (2, .int x44), (3, .int x45), (4, .int x46)] [])  (hP : K_X11_laysRows_193 F x39 x44 k200 rc w x52 x53 = some r) : V X S w 193 [(0, rf S 88), (1, .int x39), (2, .int x44), (4, .int x52)] [.int x53] := by
  unfold K_X11_laysRows_193 at hP
  refine V_istore_n (lv' := [(3, .int x53), (0, rf S 88), (1, .int x39), (2, .int x44), (4, .int x52)]) hX dX11_laysRows_193 (by decide) rfl ?_
  obtain ⟨x54, ex54⟩ : ∃ y : Int32, y = x52 + 1 := ⟨_, rfl⟩
  replace hP := lt_r ex54 hP
  refine V_iinc (v := x54) (lv' := [(4, .int x54), (3, .int x53), (0, rf S 88), (1, .int x39), (2, .int x44)]) hX dX11_laysRows_194 (j := 4) rfl (by decide) (by rw [ex54]; rfl) rfl ?_
  refine V_goto (tgt := 148) hX dX11_laysRows_197 (by decide) ?_
  refine V_sub (lv' := [(0, rf S 88), (1, .int x39), (2, .int x44), (3, .int x53), (4, .int x54)]) [2, 3, 4, 1, 0] rfl ?_
  exact hrc _ _ _  hP
def K_X11_laysRows_188 (F : Nat) (x39 : Int32) (x44 : Int32) (k200 : Wd → Int32 → Option (Wd)) (rc : Wd → Int32 → Int32 → Option (Wd)) (w : Wd) (x51 : Int32) : Option (Wd) := K_X11_laysRows_193 F x39 x44 k200 rc w x51 1
set_option maxRecDepth 100000 in
set_option maxHeartbeats 4000000 in
theorem sK_X11_laysRows_188 {X : Cx} {S : Sx} {r : Wd} {F : Nat} {x39 : Int32} {x44 : Int32} {k200 : Wd → Int32 → Option (Wd)} {rc : Wd → Int32 → Int32 → Option (Wd)} {w : Wd} {x51 : Int32} (hX : Ok X S cX11_laysRows RX11 5 rm_X11_laysRows) (hR : HRv X S cX11_laysRows r)  (hk200 : ∀ (w : Wd) (x47 : Int32) , k200 w x47 = some r → V X S w 200 [(0, rf S 88), (1, .int x39), (2, .int x44), (3, .int x47)] []) (hrc : ∀ (w : Wd) (x45 : Int32) (x46 : Int32) , rc w x45 x46 = some r → V X S w 148 [(0, rf S 88), (1, .int x39), (2, .int x44), (3, .int x45), (4, .int x46)] [])  (hP : K_X11_laysRows_188 F x39 x44 k200 rc w x51 = some r) : V X S w 188 [(0, rf S 88), (1, .int x39), (2, .int x44), (4, .int x51)] [] := by
  unfold K_X11_laysRows_188 at hP
  refine V_iconst (v := 1) hX dX11_laysRows_188 (by decide) ?_
  refine V_goto (tgt := 193) hX dX11_laysRows_189 (by decide) ?_
  exact sK_X11_laysRows_193 hX hR  hk200 hrc  hP
def K_X11_laysRows_192 (F : Nat) (x39 : Int32) (x44 : Int32) (k200 : Wd → Int32 → Option (Wd)) (rc : Wd → Int32 → Int32 → Option (Wd)) (w : Wd) (x56 : Int32) : Option (Wd) := K_X11_laysRows_193 F x39 x44 k200 rc w x56 0
set_option maxRecDepth 100000 in
set_option maxHeartbeats 4000000 in
theorem sK_X11_laysRows_192 {X : Cx} {S : Sx} {r : Wd} {F : Nat} {x39 : Int32} {x44 : Int32} {k200 : Wd → Int32 → Option (Wd)} {rc : Wd → Int32 → Int32 → Option (Wd)} {w : Wd} {x56 : Int32} (hX : Ok X S cX11_laysRows RX11 5 rm_X11_laysRows) (hR : HRv X S cX11_laysRows r)  (hk200 : ∀ (w : Wd) (x47 : Int32) , k200 w x47 = some r → V X S w 200 [(0, rf S 88), (1, .int x39), (2, .int x44), (3, .int x47)] []) (hrc : ∀ (w : Wd) (x45 : Int32) (x46 : Int32) , rc w x45 x46 = some r → V X S w 148 [(0, rf S 88), (1, .int x39), (2, .int x44), (3, .int x45), (4, .int x46)] [])  (hP : K_X11_laysRows_192 F x39 x44 k200 rc w x56 = some r) : V X S w 192 [(0, rf S 88), (1, .int x39), (2, .int x44), (4, .int x56)] [] := by
  unfold K_X11_laysRows_192 at hP
  refine V_iconst (v := 0) hX dX11_laysRows_192 (by decide) ?_
  exact sK_X11_laysRows_193 hX hR  hk200 hrc  hP
def L_X11_laysRows_148 (F : Nat) (x39 : Int32) (x44 : Int32) (k200 : Wd → Int32 → Option (Wd)) : Nat → Wd → Int32 → Int32 → Option (Wd)
  | 0, _, _, _ => none
  | n + 1, w, x45, x46 => (if (gI w 88 3) ≤ x46 then k200 w x45 else (if x39 ≤ 0 then k200 w x45 else (if x45 = 0 then (if x46 = x44 then K_X11_laysRows_192 F x39 x44 k200 ((L_X11_laysRows_148 F x39 x44 k200 n)) w x46 else gd (inB ((8 * (x39 - 1)) + x46) 48) (lt (if (gI w 115 ((8 * (x39 - 1)) + x46).toNatClampNeg) = 0 then 0 else 1 : Int32) (fun x59 => lt (x46 + 1 : Int32) (fun x60 => L_X11_laysRows_148 F x39 x44 k200 n w x59 x60)))) else K_X11_laysRows_188 F x39 x44 k200 ((L_X11_laysRows_148 F x39 x44 k200 n)) w x46)))
set_option maxRecDepth 100000 in
set_option maxHeartbeats 4000000 in
theorem sL_X11_laysRows_148 {X : Cx} {S : Sx} {r : Wd} {F : Nat} {x39 : Int32} {x44 : Int32} {k200 : Wd → Int32 → Option (Wd)} (hX : Ok X S cX11_laysRows RX11 5 rm_X11_laysRows) (hR : HRv X S cX11_laysRows r)  (hk200 : ∀ (w : Wd) (x47 : Int32) , k200 w x47 = some r → V X S w 200 [(0, rf S 88), (1, .int x39), (2, .int x44), (3, .int x47)] []) : ∀ (n : Nat) (w : Wd) (x45 : Int32) (x46 : Int32) , L_X11_laysRows_148 F x39 x44 k200 n w x45 x46 = some r → V X S w 148 [(0, rf S 88), (1, .int x39), (2, .int x44), (3, .int x45), (4, .int x46)] [] := by
  intro n
  induction n with
  | zero =>
    intro w x45 x46  hP
    exact nn hP
  | succ n ih =>
    intro w x45 x46  hP
    rw [L_X11_laysRows_148] at hP
    refine V_iload hX dX11_laysRows_148 4 rfl ?_
    refine V_aload_n hX dX11_laysRows_150 0 rfl ?_
    refine V_getI hX fk_X11_113 tb_88 (fun _ _ _ => rfl) dX11_laysRows_151 ?_
    refine V_icmp_ge (tgt := 200) hX dX11_laysRows_154 (by decide) (fun hc48 => ?_) (fun hc48 => ?_)
    · replace hP := ite_t hc48 hP
      refine V_sub (lv' := [(0, rf S 88), (1, .int x39), (2, .int x44), (3, .int x45)]) [0, 1, 2, 3] rfl ?_
      exact hk200 _ _  hP
    · replace hP := ite_f hc48 hP
      refine V_iload_n hX dX11_laysRows_157 1 rfl ?_
      refine V_if_le (tgt := 200) hX dX11_laysRows_158 (by decide) (fun hc49 => ?_) (fun hc49 => ?_)
      · replace hP := ite_t hc49 hP
        refine V_sub (lv' := [(0, rf S 88), (1, .int x39), (2, .int x44), (3, .int x45)]) [0, 1, 2, 3] rfl ?_
        exact hk200 _ _  hP
      · replace hP := ite_f hc49 hP
        refine V_iload_n hX dX11_laysRows_161 3 rfl ?_
        refine V_if_ne (tgt := 188) hX dX11_laysRows_162 (by decide) (fun hc50 => ?_) (fun hc50 => ?_)
        · replace hP := ite_f hc50 hP
          refine V_sub (lv' := [(0, rf S 88), (1, .int x39), (2, .int x44), (4, .int x46)]) [0, 1, 2, 4] rfl ?_
          exact sK_X11_laysRows_188 hX hR  hk200 ih  hP
        · replace hP := ite_t hc50 hP
          refine V_iload hX dX11_laysRows_165 4 rfl ?_
          refine V_iload_n hX dX11_laysRows_167 2 rfl ?_
          refine V_icmp_eq (tgt := 192) hX dX11_laysRows_168 (by decide) (fun hc55 => ?_) (fun hc55 => ?_)
          · replace hP := ite_t hc55 hP
            refine V_sub (lv' := [(0, rf S 88), (1, .int x39), (2, .int x44), (4, .int x46)]) [0, 1, 2, 4] rfl ?_
            exact sK_X11_laysRows_192 hX hR  hk200 ih  hP
          · replace hP := ite_f hc55 hP
            refine V_aload_n hX dX11_laysRows_171 0 rfl ?_
            refine V_getF (j := 115) hX fk_X11_89 tb_88 (fun _ _ _ => rfl) dX11_laysRows_172 ?_
            refine V_bipush (v := 8) hX dX11_laysRows_175 (by decide) ?_
            refine V_iload_n hX dX11_laysRows_177 1 rfl ?_
            refine V_iconst (v := 1) hX dX11_laysRows_178 (by decide) ?_
            refine V_isub hX dX11_laysRows_179 ?_
            refine V_imul hX dX11_laysRows_180 ?_
            refine V_iload hX dX11_laysRows_181 4 rfl ?_
            refine V_iadd hX dX11_laysRows_183 ?_
            obtain ⟨hi57, hP⟩ := gd_e hP
            refine V_zald hX tb_115 hi57 dX11_laysRows_184 ?_
            have k61 : V X S w 193 [(0, rf S 88), (1, .int x39), (2, .int x44), (3, .int x45), (4, .int x46)] [.int (if (gI w 115 ((8 * (x39 - 1)) + x46).toNatClampNeg) = 0 then 0 else 1)] := by
              refine V_topi (fun x59 ex59 => ?_)
              replace hP := lt_r ex59 hP
              refine V_istore_n (lv' := [(3, .int x59), (0, rf S 88), (1, .int x39), (2, .int x44), (4, .int x46)]) hX dX11_laysRows_193 (by decide) rfl ?_
              obtain ⟨x60, ex60⟩ : ∃ y : Int32, y = x46 + 1 := ⟨_, rfl⟩
              replace hP := lt_r ex60 hP
              refine V_iinc (v := x60) (lv' := [(4, .int x60), (3, .int x59), (0, rf S 88), (1, .int x39), (2, .int x44)]) hX dX11_laysRows_194 (j := 4) rfl (by decide) (by rw [ex60]; rfl) rfl ?_
              refine V_goto (tgt := 148) hX dX11_laysRows_197 (by decide) ?_
              refine V_sub (lv' := [(0, rf S 88), (1, .int x39), (2, .int x44), (3, .int x59), (4, .int x60)]) [2, 3, 4, 1, 0] rfl ?_
              exact ih _ _ _  hP
            refine V_if_eq (tgt := 192) hX dX11_laysRows_185 (by decide) (fun hc58 => ?_) (fun hc58 => ?_)
            · refine V_iconst (v := 0) hX dX11_laysRows_192 (by decide) ?_
              refine V_selT (c := (gI w 115 ((8 * (x39 - 1)) + x46).toNatClampNeg) = 0) (b := 1) hc58 ?_
              exact k61
            · refine V_iconst (v := 1) hX dX11_laysRows_188 (by decide) ?_
              refine V_goto (tgt := 193) hX dX11_laysRows_189 (by decide) ?_
              refine V_selF (c := (gI w 115 ((8 * (x39 - 1)) + x46).toNatClampNeg) = 0) (a := 0) hc58 ?_
              exact k61
def K_X11_laysRows_233 (F : Nat) (x39 : Int32) (k240 : Wd → Option (Wd)) (rc : Wd → Int32 → Option (Wd)) (w : Wd) (x67 : Int32) (x68 : Int32) (x69 : Int32) : Option (Wd) := gd (inB x69 48) (gd (isZO x68) (lt (sI w 115 x69.toNatClampNeg x68) (fun w71 => lt (x67 + 1 : Int32) (fun x73 => rc w71 x73))))
set_option maxRecDepth 100000 in
set_option maxHeartbeats 4000000 in
theorem sK_X11_laysRows_233 {X : Cx} {S : Sx} {r : Wd} {F : Nat} {x39 : Int32} {k240 : Wd → Option (Wd)} {rc : Wd → Int32 → Option (Wd)} {w : Wd} {x67 : Int32} {x68 : Int32} {x69 : Int32} (hX : Ok X S cX11_laysRows RX11 5 rm_X11_laysRows) (hR : HRv X S cX11_laysRows r)  (hk240 : ∀ (w : Wd), k240 w = some r → V X S w 240 [(0, rf S 88), (1, .int x39)] []) (hrc : ∀ (w : Wd) (x40 : Int32) , rc w x40 = some r → V X S w 127 [(0, rf S 88), (1, .int x39), (2, .int x40)] [])  (hP : K_X11_laysRows_233 F x39 k240 rc w x67 x68 x69 = some r) : V X S w 233 [(0, rf S 88), (1, .int x39), (2, .int x67)] [.int x68, .int x69, rf S 115] := by
  unfold K_X11_laysRows_233 at hP
  obtain ⟨hi70, hP⟩ := gd_e hP
  obtain ⟨hz72, hP⟩ := gd_e hP
  refine V_zast hX tb_115 hi70 hz72 dX11_laysRows_233 (fun w71 ew71 => ?_)
  replace hP := lt_r ew71 hP
  obtain ⟨x73, ex73⟩ : ∃ y : Int32, y = x67 + 1 := ⟨_, rfl⟩
  replace hP := lt_r ex73 hP
  refine V_iinc (v := x73) (lv' := [(2, .int x73), (0, rf S 88), (1, .int x39)]) hX dX11_laysRows_234 (j := 2) rfl (by decide) (by rw [ex73]; rfl) rfl ?_
  refine V_goto (tgt := 127) hX dX11_laysRows_237 (by decide) ?_
  refine V_sub (lv' := [(0, rf S 88), (1, .int x39), (2, .int x73)]) [1, 2, 0] rfl ?_
  exact hrc _ _  hP
def K_X11_laysRows_232 (F : Nat) (x39 : Int32) (k240 : Wd → Option (Wd)) (rc : Wd → Int32 → Option (Wd)) (w : Wd) (x65 : Int32) (x66 : Int32) : Option (Wd) := K_X11_laysRows_233 F x39 k240 rc w x65 0 x66
set_option maxRecDepth 100000 in
set_option maxHeartbeats 4000000 in
theorem sK_X11_laysRows_232 {X : Cx} {S : Sx} {r : Wd} {F : Nat} {x39 : Int32} {k240 : Wd → Option (Wd)} {rc : Wd → Int32 → Option (Wd)} {w : Wd} {x65 : Int32} {x66 : Int32} (hX : Ok X S cX11_laysRows RX11 5 rm_X11_laysRows) (hR : HRv X S cX11_laysRows r)  (hk240 : ∀ (w : Wd), k240 w = some r → V X S w 240 [(0, rf S 88), (1, .int x39)] []) (hrc : ∀ (w : Wd) (x40 : Int32) , rc w x40 = some r → V X S w 127 [(0, rf S 88), (1, .int x39), (2, .int x40)] [])  (hP : K_X11_laysRows_232 F x39 k240 rc w x65 x66 = some r) : V X S w 232 [(0, rf S 88), (1, .int x39), (2, .int x65)] [.int x66, rf S 115] := by
  unfold K_X11_laysRows_232 at hP
  refine V_iconst (v := 0) hX dX11_laysRows_232 (by decide) ?_
  exact sK_X11_laysRows_233 hX hR  hk240 hrc  hP
def K_X11_laysRows_200 (F : Nat) (x39 : Int32) (k240 : Wd → Option (Wd)) (rc : Wd → Int32 → Option (Wd)) (w : Wd) (x62 : Int32) (x63 : Int32) : Option (Wd) := (if x63 = 0 then K_X11_laysRows_232 F x39 k240 rc w x62 ((8 * x39) + x62) else gd (inB ((8 * x39) + x62) 48) (lt (if (gI w 114 ((8 * x39) + x62).toNatClampNeg) ≤ 0 then 0 else 1 : Int32) (fun x76 => gd (inB ((8 * x39) + x62) 48) (gd (isZO x76) (lt (sI w 115 ((8 * x39) + x62).toNatClampNeg x76) (fun w78 => lt (x62 + 1 : Int32) (fun x80 => rc w78 x80)))))))
set_option maxRecDepth 100000 in
set_option maxHeartbeats 4000000 in
theorem sK_X11_laysRows_200 {X : Cx} {S : Sx} {r : Wd} {F : Nat} {x39 : Int32} {k240 : Wd → Option (Wd)} {rc : Wd → Int32 → Option (Wd)} {w : Wd} {x62 : Int32} {x63 : Int32} (hX : Ok X S cX11_laysRows RX11 5 rm_X11_laysRows) (hR : HRv X S cX11_laysRows r)  (hk240 : ∀ (w : Wd), k240 w = some r → V X S w 240 [(0, rf S 88), (1, .int x39)] []) (hrc : ∀ (w : Wd) (x40 : Int32) , rc w x40 = some r → V X S w 127 [(0, rf S 88), (1, .int x39), (2, .int x40)] [])  (hP : K_X11_laysRows_200 F x39 k240 rc w x62 x63 = some r) : V X S w 200 [(0, rf S 88), (1, .int x39), (2, .int x62), (3, .int x63)] [] := by
  unfold K_X11_laysRows_200 at hP
  refine V_aload_n hX dX11_laysRows_200 0 rfl ?_
  refine V_getF (j := 115) hX fk_X11_89 tb_88 (fun _ _ _ => rfl) dX11_laysRows_201 ?_
  refine V_bipush (v := 8) hX dX11_laysRows_204 (by decide) ?_
  refine V_iload_n hX dX11_laysRows_206 1 rfl ?_
  refine V_imul hX dX11_laysRows_207 ?_
  refine V_iload_n hX dX11_laysRows_208 2 rfl ?_
  refine V_iadd hX dX11_laysRows_209 ?_
  refine V_iload_n hX dX11_laysRows_210 3 rfl ?_
  refine V_if_eq (tgt := 232) hX dX11_laysRows_211 (by decide) (fun hc64 => ?_) (fun hc64 => ?_)
  · replace hP := ite_t hc64 hP
    refine V_sub (lv' := [(0, rf S 88), (1, .int x39), (2, .int x62)]) [0, 1, 2] rfl ?_
    exact sK_X11_laysRows_232 hX hR  hk240 hrc  hP
  · replace hP := ite_f hc64 hP
    refine V_aload_n hX dX11_laysRows_214 0 rfl ?_
    refine V_getF (j := 114) hX fk_X11_86 tb_88 (fun _ _ _ => rfl) dX11_laysRows_215 ?_
    refine V_bipush (v := 8) hX dX11_laysRows_218 (by decide) ?_
    refine V_iload_n hX dX11_laysRows_220 1 rfl ?_
    refine V_imul hX dX11_laysRows_221 ?_
    refine V_iload_n hX dX11_laysRows_222 2 rfl ?_
    refine V_iadd hX dX11_laysRows_223 ?_
    obtain ⟨hi74, hP⟩ := gd_e hP
    refine V_iald hX tb_114 hi74 dX11_laysRows_224 ?_
    have k81 : V X S w 233 [(0, rf S 88), (1, .int x39), (2, .int x62), (3, .int x63)] [.int (if (gI w 114 ((8 * x39) + x62).toNatClampNeg) ≤ 0 then 0 else 1), .int ((8 * x39) + x62), rf S 115] := by
      refine V_topi (fun x76 ex76 => ?_)
      replace hP := lt_r ex76 hP
      obtain ⟨hi77, hP⟩ := gd_e hP
      obtain ⟨hz79, hP⟩ := gd_e hP
      refine V_zast hX tb_115 hi77 hz79 dX11_laysRows_233 (fun w78 ew78 => ?_)
      replace hP := lt_r ew78 hP
      obtain ⟨x80, ex80⟩ : ∃ y : Int32, y = x62 + 1 := ⟨_, rfl⟩
      replace hP := lt_r ex80 hP
      refine V_iinc (v := x80) (lv' := [(2, .int x80), (0, rf S 88), (1, .int x39), (3, .int x63)]) hX dX11_laysRows_234 (j := 2) rfl (by decide) (by rw [ex80]; rfl) rfl ?_
      refine V_goto (tgt := 127) hX dX11_laysRows_237 (by decide) ?_
      refine V_sub (lv' := [(0, rf S 88), (1, .int x39), (2, .int x80)]) [1, 2, 0] rfl ?_
      exact hrc _ _  hP
    refine V_if_le (tgt := 232) hX dX11_laysRows_225 (by decide) (fun hc75 => ?_) (fun hc75 => ?_)
    · refine V_iconst (v := 0) hX dX11_laysRows_232 (by decide) ?_
      refine V_selT (c := (gI w 114 ((8 * x39) + x62).toNatClampNeg) ≤ 0) (b := 1) hc75 ?_
      exact k81
    · refine V_iconst (v := 1) hX dX11_laysRows_228 (by decide) ?_
      refine V_goto (tgt := 233) hX dX11_laysRows_229 (by decide) ?_
      refine V_selF (c := (gI w 114 ((8 * x39) + x62).toNatClampNeg) ≤ 0) (a := 0) hc75 ?_
      exact k81
def L_X11_laysRows_127 (F : Nat) (x39 : Int32) (k240 : Wd → Option (Wd)) : Nat → Wd → Int32 → Option (Wd)
  | 0, _, _ => none
  | n + 1, w, x40 => (if (gI w 88 3) ≤ x40 then k240 w  else lt (if x39 = 0 then 1 else 0 : Int32) (fun x43 => L_X11_laysRows_148 F x39 x40 (fun w x47 => K_X11_laysRows_200 F x39 k240 ((L_X11_laysRows_127 F x39 k240 n)) w x40 x47) F w x43 0))
set_option maxRecDepth 100000 in
set_option maxHeartbeats 4000000 in
theorem sL_X11_laysRows_127 {X : Cx} {S : Sx} {r : Wd} {F : Nat} {x39 : Int32} {k240 : Wd → Option (Wd)} (hX : Ok X S cX11_laysRows RX11 5 rm_X11_laysRows) (hR : HRv X S cX11_laysRows r)  (hk240 : ∀ (w : Wd), k240 w = some r → V X S w 240 [(0, rf S 88), (1, .int x39)] []) : ∀ (n : Nat) (w : Wd) (x40 : Int32) , L_X11_laysRows_127 F x39 k240 n w x40 = some r → V X S w 127 [(0, rf S 88), (1, .int x39), (2, .int x40)] [] := by
  intro n
  induction n with
  | zero =>
    intro w x40  hP
    exact nn hP
  | succ n ih =>
    intro w x40  hP
    rw [L_X11_laysRows_127] at hP
    refine V_iload_n hX dX11_laysRows_127 2 rfl ?_
    refine V_aload_n hX dX11_laysRows_128 0 rfl ?_
    refine V_getI hX fk_X11_113 tb_88 (fun _ _ _ => rfl) dX11_laysRows_129 ?_
    refine V_icmp_ge (tgt := 240) hX dX11_laysRows_132 (by decide) (fun hc41 => ?_) (fun hc41 => ?_)
    · replace hP := ite_t hc41 hP
      refine V_sub (lv' := [(0, rf S 88), (1, .int x39)]) [0, 1] rfl ?_
      exact hk240 _   hP
    · replace hP := ite_f hc41 hP
      refine V_iload_n hX dX11_laysRows_135 1 rfl ?_
      have k83 : V X S w 144 [(0, rf S 88), (1, .int x39), (2, .int x40)] [.int (if x39 = 0 then 1 else 0)] := by
        refine V_topi (fun x43 ex43 => ?_)
        replace hP := lt_r ex43 hP
        refine V_istore_n (lv' := [(3, .int x43), (0, rf S 88), (1, .int x39), (2, .int x40)]) hX dX11_laysRows_144 (by decide) rfl ?_
        refine V_iconst (v := 0) hX dX11_laysRows_145 (by decide) ?_
        refine V_istore (lv' := [(4, .int 0), (3, .int x43), (0, rf S 88), (1, .int x39), (2, .int x40)]) hX dX11_laysRows_146 (by decide) rfl ?_
        refine V_sub (lv' := [(0, rf S 88), (1, .int x39), (2, .int x40), (3, .int x43), (4, .int 0)]) [2, 3, 4, 1, 0] rfl ?_
        have k82 : ∀ (w : Wd) (x47 : Int32) , (K_X11_laysRows_200 F x39 k240 ((L_X11_laysRows_127 F x39 k240 n)) w x40 x47) = some r → V X S w 200 [(0, rf S 88), (1, .int x39), (2, .int x40), (3, .int x47)] [] := by
          intro w x47  hP
          exact sK_X11_laysRows_200 hX hR  hk240 ih  hP
        exact sL_X11_laysRows_148 hX hR  k82 F _ _ _  hP
      refine V_if_ne (tgt := 143) hX dX11_laysRows_136 (by decide) (fun hc42 => ?_) (fun hc42 => ?_)
      · refine V_iconst (v := 0) hX dX11_laysRows_143 (by decide) ?_
        refine V_selF (c := x39 = 0) (a := 1) hc42 ?_
        exact k83
      · refine V_iconst (v := 1) hX dX11_laysRows_139 (by decide) ?_
        refine V_goto (tgt := 144) hX dX11_laysRows_140 (by decide) ?_
        refine V_selT (c := x39 = 0) (b := 0) hc42 ?_
        exact k83
def L_X11_laysRows_119 (F : Nat)  (k246 : Wd → Option (Wd)) : Nat → Wd → Int32 → Option (Wd)
  | 0, _, _ => none
  | n + 1, w, x37 => (if (6 : Int32) ≤ x37 then k246 w  else L_X11_laysRows_127 F x37 (fun w  => lt (x37 + 1 : Int32) (fun x84 => L_X11_laysRows_119 F  k246 n w x84)) F w 0)
set_option maxRecDepth 100000 in
set_option maxHeartbeats 4000000 in
theorem sL_X11_laysRows_119 {X : Cx} {S : Sx} {r : Wd} {F : Nat}  {k246 : Wd → Option (Wd)} (hX : Ok X S cX11_laysRows RX11 5 rm_X11_laysRows) (hR : HRv X S cX11_laysRows r)  (hk246 : ∀ (w : Wd), k246 w = some r → V X S w 246 [] []) : ∀ (n : Nat) (w : Wd) (x37 : Int32) , L_X11_laysRows_119 F  k246 n w x37 = some r → V X S w 119 [(0, rf S 88), (1, .int x37)] [] := by
  intro n
  induction n with
  | zero =>
    intro w x37  hP
    exact nn hP
  | succ n ih =>
    intro w x37  hP
    rw [L_X11_laysRows_119] at hP
    refine V_iload_n hX dX11_laysRows_119 1 rfl ?_
    refine V_bipush (v := 6) hX dX11_laysRows_120 (by decide) ?_
    refine V_icmp_ge (tgt := 246) hX dX11_laysRows_122 (by decide) (fun hc38 => ?_) (fun hc38 => ?_)
    · replace hP := ite_t hc38 hP
      refine V_sub (lv' := []) [] rfl ?_
      exact hk246 _   hP
    · replace hP := ite_f hc38 hP
      refine V_iconst (v := 0) hX dX11_laysRows_125 (by decide) ?_
      refine V_istore_n (lv' := [(2, .int 0), (0, rf S 88), (1, .int x37)]) hX dX11_laysRows_126 (by decide) rfl ?_
      refine V_sub (lv' := [(0, rf S 88), (1, .int x37), (2, .int 0)]) [1, 2, 0] rfl ?_
      have k85 : ∀ (w : Wd)  , (lt (x37 + 1 : Int32) (fun x84 => L_X11_laysRows_119 F  k246 n w x84)) = some r → V X S w 240 [(0, rf S 88), (1, .int x37)] [] := by
        intro w   hP
        obtain ⟨x84, ex84⟩ : ∃ y : Int32, y = x37 + 1 := ⟨_, rfl⟩
        replace hP := lt_r ex84 hP
        refine V_iinc (v := x84) (lv' := [(1, .int x84), (0, rf S 88)]) hX dX11_laysRows_240 (j := 1) rfl (by decide) (by rw [ex84]; rfl) rfl ?_
        refine V_goto (tgt := 119) hX dX11_laysRows_243 (by decide) ?_
        refine V_sub (lv' := [(0, rf S 88), (1, .int x84)]) [1, 0] rfl ?_
        exact ih _ _  hP
      exact sL_X11_laysRows_127 hX hR  k85 F _ _  hP
def P_X11_laysRows (F : Nat) (w : Wd)  : Option (Wd) := L_X11_laysRows_2 F  (fun w  => L_X11_laysRows_119 F  (fun w  => some w) F w 0) F w 5
set_option maxRecDepth 100000 in
set_option maxHeartbeats 4000000 in
theorem s_X11_laysRows {X : Cx} {S : Sx} {r : Wd} {F : Nat} {w : Wd}   (hX : Ok X S cX11_laysRows RX11 5 rm_X11_laysRows) (hR : HRv X S cX11_laysRows r) (hP : P_X11_laysRows F w  = some r) : V X S w 0 [(0, rf S 88)] [] := by
  unfold P_X11_laysRows at hP
  refine V_iconst (v := 5) hX dX11_laysRows_0 (by decide) ?_
  refine V_istore_n (lv' := [(1, .int 5), (0, rf S 88)]) hX dX11_laysRows_1 (by decide) rfl ?_
  refine V_sub (lv' := [(0, rf S 88), (1, .int 5)]) [1, 0] rfl ?_
  have k87 : ∀ (w : Wd)  , (L_X11_laysRows_119 F  (fun w  => some w) F w 0) = some r → V X S w 117 [(0, rf S 88)] [] := by
    intro w   hP
    refine V_iconst (v := 0) hX dX11_laysRows_117 (by decide) ?_
    refine V_istore_n (lv' := [(1, .int 0), (0, rf S 88)]) hX dX11_laysRows_118 (by decide) rfl ?_
    refine V_sub (lv' := [(0, rf S 88), (1, .int 0)]) [1, 0] rfl ?_
    have k86 : ∀ (w : Wd)  , (some w) = some r → V X S w 246 [] [] := by
      intro w   hP
      exact hR _ _ _ (Option.some.inj hP) dX11_laysRows_246
    exact sL_X11_laysRows_119 hX hR  k86 F _ _  hP
  exact sL_X11_laysRows_2 hX hR  k87 F _ _  hP
theorem c_X11_laysRows (l : Launch) (S : Sx) {r : Wd} {F : Nat} {w : Wd}   (h : P_X11_laysRows F w  = some r) : Met l yX11_laysRows (wsg yX11_laysRows cX11_laysRows 5 none) rm_X11_laysRows (PC S w [rf S 88]) (QCv S r) 0 0 (Aw S) :=
  met_v (by decide) rfl (Nat.le_of_ble_eq_true rfl) ⟨rfl, rfl⟩ (fun X hX hR => s_X11_laysRows  hX hR h)

-- MustNotStopModel.rows()I
abbrev rm_X11_rows : Room := { frames := 7, cells := 0, slots := 0, locals := 201 }
theorem nk_X11_rows : MNk yX11_rows RX11 0 := ⟨rfl, by decide, by decide, by decide +kernel⟩
def L_X11_rows_13 (F : Nat)  (k36 : Wd → Int32 → Option (Int32 × Wd)) : Nat → Wd → Int32 → Int32 → Option (Int32 × Wd)
  | 0, _, _, _ => none
  | n + 1, w, x3, x4 => (if (gI w 88 3) ≤ x4 then k36 w x3 else gd (inB x4 48) (lt (x3 + (gI w 114 x4.toNatClampNeg) : Int32) (fun x8 => lt (x4 + 1 : Int32) (fun x9 => L_X11_rows_13 F  k36 n w x8 x9))))
set_option maxRecDepth 100000 in
set_option maxHeartbeats 4000000 in
theorem sL_X11_rows_13 {X : Cx} {S : Sx} {r : Int32 × Wd} {F : Nat}  {k36 : Wd → Int32 → Option (Int32 × Wd)} (hX : Ok X S cX11_rows RX11 5 rm_X11_rows) (hR : HRt X S cX11_rows .int r)  (hk36 : ∀ (w : Wd) (x5 : Int32) , k36 w x5 = some r → V X S w 36 [(0, rf S 88), (1, .int x5)] []) : ∀ (n : Nat) (w : Wd) (x3 : Int32) (x4 : Int32) , L_X11_rows_13 F  k36 n w x3 x4 = some r → V X S w 13 [(0, rf S 88), (1, .int x3), (2, .int x4)] [] := by
  intro n
  induction n with
  | zero =>
    intro w x3 x4  hP
    exact nn hP
  | succ n ih =>
    intro w x3 x4  hP
    rw [L_X11_rows_13] at hP
    refine V_iload_n hX dX11_rows_13 2 rfl ?_
    refine V_aload_n hX dX11_rows_14 0 rfl ?_
    refine V_getI hX fk_X11_113 tb_88 (fun _ _ _ => rfl) dX11_rows_15 ?_
    refine V_icmp_ge (tgt := 36) hX dX11_rows_18 (by decide) (fun hc6 => ?_) (fun hc6 => ?_)
    · replace hP := ite_t hc6 hP
      refine V_sub (lv' := [(0, rf S 88), (1, .int x3)]) [0, 1] rfl ?_
      exact hk36 _ _  hP
    · replace hP := ite_f hc6 hP
      refine V_iload_n hX dX11_rows_21 1 rfl ?_
      refine V_aload_n hX dX11_rows_22 0 rfl ?_
      refine V_getF (j := 114) hX fk_X11_86 tb_88 (fun _ _ _ => rfl) dX11_rows_23 ?_
      refine V_iload_n hX dX11_rows_26 2 rfl ?_
      obtain ⟨hi7, hP⟩ := gd_e hP
      refine V_iald hX tb_114 hi7 dX11_rows_27 ?_
      refine V_iadd hX dX11_rows_28 ?_
      refine V_topi (fun x8 ex8 => ?_)
      replace hP := lt_r ex8 hP
      refine V_istore_n (lv' := [(1, .int x8), (0, rf S 88), (2, .int x4)]) hX dX11_rows_29 (by decide) rfl ?_
      obtain ⟨x9, ex9⟩ : ∃ y : Int32, y = x4 + 1 := ⟨_, rfl⟩
      replace hP := lt_r ex9 hP
      refine V_iinc (v := x9) (lv' := [(2, .int x9), (1, .int x8), (0, rf S 88)]) hX dX11_rows_30 (j := 2) rfl (by decide) (by rw [ex9]; rfl) rfl ?_
      refine V_goto (tgt := 13) hX dX11_rows_33 (by decide) ?_
      refine V_sub (lv' := [(0, rf S 88), (1, .int x8), (2, .int x9)]) [2, 1, 0] rfl ?_
      exact ih _ _ _  hP
def K_X11_rows_79 (F : Nat) (x11 : Int32) (x16 : Int32) (x17 : Int32) (k85 : Wd → Int32 → Option (Int32 × Wd)) (rc : Wd → Int32 → Option (Int32 × Wd)) (w : Wd) (x21 : Int32) : Option (Int32 × Wd) := lt (x21 + 1 : Int32) (fun x22 => rc w x22)
set_option maxRecDepth 100000 in
set_option maxHeartbeats 4000000 in
theorem sK_X11_rows_79 {X : Cx} {S : Sx} {r : Int32 × Wd} {F : Nat} {x11 : Int32} {x16 : Int32} {x17 : Int32} {k85 : Wd → Int32 → Option (Int32 × Wd)} {rc : Wd → Int32 → Option (Int32 × Wd)} {w : Wd} {x21 : Int32} (hX : Ok X S cX11_rows RX11 5 rm_X11_rows) (hR : HRt X S cX11_rows .int r)  (hk85 : ∀ (w : Wd) (x19 : Int32) , k85 w x19 = some r → V X S w 85 [(0, rf S 88), (1, .int x11), (3, .int x17), (4, .int x19)] []) (hrc : ∀ (w : Wd) (x18 : Int32) , rc w x18 = some r → V X S w 58 [(0, rf S 88), (1, .int x11), (2, .int x16), (3, .int x17), (4, .int x18)] [])  (hP : K_X11_rows_79 F x11 x16 x17 k85 rc w x21 = some r) : V X S w 79 [(0, rf S 88), (1, .int x11), (2, .int x16), (3, .int x17), (4, .int x21)] [] := by
  unfold K_X11_rows_79 at hP
  obtain ⟨x22, ex22⟩ : ∃ y : Int32, y = x21 + 1 := ⟨_, rfl⟩
  replace hP := lt_r ex22 hP
  refine V_iinc (v := x22) (lv' := [(4, .int x22), (0, rf S 88), (1, .int x11), (2, .int x16), (3, .int x17)]) hX dX11_rows_79 (j := 4) rfl (by decide) (by rw [ex22]; rfl) rfl ?_
  refine V_goto (tgt := 58) hX dX11_rows_82 (by decide) ?_
  refine V_sub (lv' := [(0, rf S 88), (1, .int x11), (2, .int x16), (3, .int x17), (4, .int x22)]) [1, 2, 3, 4, 0] rfl ?_
  exact hrc _ _  hP
def L_X11_rows_58 (F : Nat) (x11 : Int32) (x16 : Int32) (x17 : Int32) (k85 : Wd → Int32 → Option (Int32 × Wd)) : Nat → Wd → Int32 → Option (Int32 × Wd)
  | 0, _, _ => none
  | n + 1, w, x18 => (if x18 = x16 then K_X11_rows_79 F x11 x16 x17 k85 ((L_X11_rows_58 F x11 x16 x17 k85 n)) w x18 else gd (inB ((8 * x17) + x18) 48) ((if (gI w 114 ((8 * x17) + x18).toNatClampNeg) = 0 then K_X11_rows_79 F x11 x16 x17 k85 ((L_X11_rows_58 F x11 x16 x17 k85 n)) w x18 else k85 w x18)))
set_option maxRecDepth 100000 in
set_option maxHeartbeats 4000000 in
theorem sL_X11_rows_58 {X : Cx} {S : Sx} {r : Int32 × Wd} {F : Nat} {x11 : Int32} {x16 : Int32} {x17 : Int32} {k85 : Wd → Int32 → Option (Int32 × Wd)} (hX : Ok X S cX11_rows RX11 5 rm_X11_rows) (hR : HRt X S cX11_rows .int r)  (hk85 : ∀ (w : Wd) (x19 : Int32) , k85 w x19 = some r → V X S w 85 [(0, rf S 88), (1, .int x11), (3, .int x17), (4, .int x19)] []) : ∀ (n : Nat) (w : Wd) (x18 : Int32) , L_X11_rows_58 F x11 x16 x17 k85 n w x18 = some r → V X S w 58 [(0, rf S 88), (1, .int x11), (2, .int x16), (3, .int x17), (4, .int x18)] [] := by
  intro n
  induction n with
  | zero =>
    intro w x18  hP
    exact nn hP
  | succ n ih =>
    intro w x18  hP
    rw [L_X11_rows_58] at hP
    refine V_iload hX dX11_rows_58 4 rfl ?_
    refine V_iload_n hX dX11_rows_60 2 rfl ?_
    refine V_icmp_eq (tgt := 79) hX dX11_rows_61 (by decide) (fun hc20 => ?_) (fun hc20 => ?_)
    · replace hP := ite_t hc20 hP
      exact sK_X11_rows_79 hX hR  hk85 ih  hP
    · replace hP := ite_f hc20 hP
      refine V_aload_n hX dX11_rows_64 0 rfl ?_
      refine V_getF (j := 114) hX fk_X11_86 tb_88 (fun _ _ _ => rfl) dX11_rows_65 ?_
      refine V_bipush (v := 8) hX dX11_rows_68 (by decide) ?_
      refine V_iload_n hX dX11_rows_70 3 rfl ?_
      refine V_imul hX dX11_rows_71 ?_
      refine V_iload hX dX11_rows_72 4 rfl ?_
      refine V_iadd hX dX11_rows_74 ?_
      obtain ⟨hi23, hP⟩ := gd_e hP
      refine V_iald hX tb_114 hi23 dX11_rows_75 ?_
      refine V_if_ne (tgt := 85) hX dX11_rows_76 (by decide) (fun hc24 => ?_) (fun hc24 => ?_)
      · replace hP := ite_f hc24 hP
        refine V_sub (lv' := [(0, rf S 88), (1, .int x11), (3, .int x17), (4, .int x18)]) [0, 1, 3, 4] rfl ?_
        exact hk85 _ _  hP
      · replace hP := ite_t hc24 hP
        exact sK_X11_rows_79 hX hR  hk85 ih  hP
def L_X11_rows_45 (F : Nat) (x11 : Int32) (k101 : Wd → Option (Int32 × Wd)) : Nat → Wd → Int32 → Int32 → Option (Int32 × Wd)
  | 0, _, _, _ => none
  | n + 1, w, x12, x13 => (if (6 : Int32) ≤ x13 then k101 w  else (if x11 ≤ 0 then k101 w  else L_X11_rows_58 F x11 x12 x13 (fun w x19 => bnv (P_X11_enters F w (Int32.toInt64 x19)) (fun w25 => lt (x13 + 1 : Int32) (fun x26 => L_X11_rows_45 F x11 k101 n w25 x19 x26))) F w 0))
set_option maxRecDepth 100000 in
set_option maxHeartbeats 4000000 in
theorem sL_X11_rows_45 {X : Cx} {S : Sx} {r : Int32 × Wd} {F : Nat} {x11 : Int32} {k101 : Wd → Option (Int32 × Wd)} (hX : Ok X S cX11_rows RX11 5 rm_X11_rows) (hR : HRt X S cX11_rows .int r)  (hk101 : ∀ (w : Wd), k101 w = some r → V X S w 101 [(1, .int x11)] []) : ∀ (n : Nat) (w : Wd) (x12 : Int32) (x13 : Int32) , L_X11_rows_45 F x11 k101 n w x12 x13 = some r → V X S w 45 [(0, rf S 88), (1, .int x11), (2, .int x12), (3, .int x13)] [] := by
  intro n
  induction n with
  | zero =>
    intro w x12 x13  hP
    exact nn hP
  | succ n ih =>
    intro w x12 x13  hP
    rw [L_X11_rows_45] at hP
    refine V_iload_n hX dX11_rows_45 3 rfl ?_
    refine V_bipush (v := 6) hX dX11_rows_46 (by decide) ?_
    refine V_icmp_ge (tgt := 101) hX dX11_rows_48 (by decide) (fun hc14 => ?_) (fun hc14 => ?_)
    · replace hP := ite_t hc14 hP
      refine V_sub (lv' := [(1, .int x11)]) [1] rfl ?_
      exact hk101 _   hP
    · replace hP := ite_f hc14 hP
      refine V_iload_n hX dX11_rows_51 1 rfl ?_
      refine V_if_le (tgt := 101) hX dX11_rows_52 (by decide) (fun hc15 => ?_) (fun hc15 => ?_)
      · replace hP := ite_t hc15 hP
        refine V_sub (lv' := [(1, .int x11)]) [1] rfl ?_
        exact hk101 _   hP
      · replace hP := ite_f hc15 hP
        refine V_iconst (v := 0) hX dX11_rows_55 (by decide) ?_
        refine V_istore (lv' := [(4, .int 0), (0, rf S 88), (1, .int x11), (2, .int x12), (3, .int x13)]) hX dX11_rows_56 (by decide) rfl ?_
        refine V_sub (lv' := [(0, rf S 88), (1, .int x11), (2, .int x12), (3, .int x13), (4, .int 0)]) [1, 2, 3, 4, 0] rfl ?_
        have k27 : ∀ (w : Wd) (x19 : Int32) , (bnv (P_X11_enters F w (Int32.toInt64 x19)) (fun w25 => lt (x13 + 1 : Int32) (fun x26 => L_X11_rows_45 F x11 k101 n w25 x19 x26))) = some r → V X S w 85 [(0, rf S 88), (1, .int x11), (3, .int x13), (4, .int x19)] [] := by
          intro w x19  hP
          refine V_aload_n hX dX11_rows_85 0 rfl ?_
          refine V_iload hX dX11_rows_86 3 rfl ?_
          refine V_i2l hX dX11_rows_88 ?_
          obtain ⟨w25, hcw25, hP⟩ := bnv_e hP
          refine V_callVv (As := [.long (Int32.toInt64 x19)]) (rest := []) hX mk_X11_316 nk_X11_enters (fun l => c_X11_enters l S  hcw25) tb_88 rfl ⟨rfl, rfl, Nat.le_of_ble_eq_true rfl, Nat.le_of_ble_eq_true rfl⟩ rfl rfl (Nat.le_of_ble_eq_true rfl) dX11_rows_89 ?_
          refine V_iload hX dX11_rows_92 3 rfl ?_
          refine V_istore_n (lv' := [(2, .int x19), (0, rf S 88), (1, .int x11), (3, .int x13), (4, .int x19)]) hX dX11_rows_94 (by decide) rfl ?_
          obtain ⟨x26, ex26⟩ : ∃ y : Int32, y = x13 + 1 := ⟨_, rfl⟩
          replace hP := lt_r ex26 hP
          refine V_iinc (v := x26) (lv' := [(3, .int x26), (2, .int x19), (0, rf S 88), (1, .int x11), (4, .int x19)]) hX dX11_rows_95 (j := 3) rfl (by decide) (by rw [ex26]; rfl) rfl ?_
          refine V_goto (tgt := 45) hX dX11_rows_98 (by decide) ?_
          refine V_sub (lv' := [(0, rf S 88), (1, .int x11), (2, .int x19), (3, .int x26)]) [2, 3, 1, 0] rfl ?_
          exact ih _ _ _  hP
        exact sL_X11_rows_58 hX hR  k27 F _ _  hP
def P_X11_rows (F : Nat) (w : Wd)  : Option (Int32 × Wd) := lt (sI w 88 0 0) (fun w1 => bnv (P_X11_laysRows F w1 ) (fun w2 => L_X11_rows_13 F  (fun w x5 => lt (sI w 88 1 0) (fun w10 => L_X11_rows_45 F x5 (fun w  => some (x5, w)) F w10 ((-1)) 0)) F w2 0 0))
set_option maxRecDepth 100000 in
set_option maxHeartbeats 4000000 in
theorem s_X11_rows {X : Cx} {S : Sx} {r : Int32 × Wd} {F : Nat} {w : Wd}   (hX : Ok X S cX11_rows RX11 5 rm_X11_rows) (hR : HRt X S cX11_rows .int r) (hP : P_X11_rows F w  = some r) : V X S w 0 [(0, rf S 88)] [] := by
  unfold P_X11_rows at hP
  refine V_aload_n hX dX11_rows_0 0 rfl ?_
  refine V_iconst (v := 0) hX dX11_rows_1 (by decide) ?_
  refine V_putI hX fw_X11_102 tb_88 (fun _ _ _ => ⟨Nat.le_of_ble_eq_true rfl, rfl⟩) dX11_rows_2 (fun w1 ew1 => ?_)
  replace hP := lt_r ew1 hP
  refine V_aload_n hX dX11_rows_5 0 rfl ?_
  obtain ⟨w2, hcw2, hP⟩ := bnv_e hP
  refine V_callVv (As := []) (rest := []) hX mk_X11_399 nk_X11_laysRows (fun l => c_X11_laysRows l S  hcw2) tb_88 rfl ⟨rfl, rfl, Nat.le_of_ble_eq_true rfl, Nat.le_of_ble_eq_true rfl⟩ rfl rfl (Nat.le_of_ble_eq_true rfl) dX11_rows_6 ?_
  refine V_iconst (v := 0) hX dX11_rows_9 (by decide) ?_
  refine V_istore_n (lv' := [(1, .int 0), (0, rf S 88)]) hX dX11_rows_10 (by decide) rfl ?_
  refine V_iconst (v := 0) hX dX11_rows_11 (by decide) ?_
  refine V_istore_n (lv' := [(2, .int 0), (1, .int 0), (0, rf S 88)]) hX dX11_rows_12 (by decide) rfl ?_
  refine V_sub (lv' := [(0, rf S 88), (1, .int 0), (2, .int 0)]) [2, 1, 0] rfl ?_
  have k29 : ∀ (w : Wd) (x5 : Int32) , (lt (sI w 88 1 0) (fun w10 => L_X11_rows_45 F x5 (fun w  => some (x5, w)) F w10 ((-1)) 0)) = some r → V X S w 36 [(0, rf S 88), (1, .int x5)] [] := by
    intro w x5  hP
    refine V_aload_n hX dX11_rows_36 0 rfl ?_
    refine V_iconst (v := 0) hX dX11_rows_37 (by decide) ?_
    refine V_putI hX fw_X11_110 tb_88 (fun _ _ _ => ⟨Nat.le_of_ble_eq_true rfl, rfl⟩) dX11_rows_38 (fun w10 ew10 => ?_)
    replace hP := lt_r ew10 hP
    refine V_iconst (v := (-1)) hX dX11_rows_41 (by decide) ?_
    refine V_istore_n (lv' := [(2, .int ((-1))), (0, rf S 88), (1, .int x5)]) hX dX11_rows_42 (by decide) rfl ?_
    refine V_iconst (v := 0) hX dX11_rows_43 (by decide) ?_
    refine V_istore_n (lv' := [(3, .int 0), (2, .int ((-1))), (0, rf S 88), (1, .int x5)]) hX dX11_rows_44 (by decide) rfl ?_
    refine V_sub (lv' := [(0, rf S 88), (1, .int x5), (2, .int ((-1))), (3, .int 0)]) [2, 3, 1, 0] rfl ?_
    have k28 : ∀ (w : Wd)  , (some (x5, w)) = some r → V X S w 101 [(1, .int x5)] [] := by
      intro w   hP
      refine V_iload_n hX dX11_rows_101 0 rfl ?_
      exact hR _ _ _ _ (Option.some.inj hP) rfl dX11_rows_102
    exact sL_X11_rows_45 hX hR  k28 F _ _ _  hP
  exact sL_X11_rows_13 hX hR  k29 F _ _ _  hP
theorem c_X11_rows (l : Launch) (S : Sx) {r : Int32 × Wd} {F : Nat} {w : Wd}   (h : P_X11_rows F w  = some r) : Met l yX11_rows (wsg yX11_rows cX11_rows 5 (some .int)) rm_X11_rows (PC S w [rf S 88]) (QCi S r) 0 0 (Aw S) :=
  met_i (by decide) rfl (Nat.le_of_ble_eq_true rfl) ⟨rfl, rfl⟩ (fun X hX hR => s_X11_rows  hX hR h)

-- MustNotStopModel.rangIn(I)I
abbrev rm_X11_rangIn : Room := { frames := 1, cells := 0, slots := 0, locals := 64 }
theorem nk_X11_rangIn : MNk yX11_rangIn RX11 1 := ⟨rfl, by decide, by decide, by decide +kernel⟩
def L_X11_rangIn_4 (F : Nat) (x1 : Int32) (k42 : Wd → Int32 → Option (Int32 × Wd)) : Nat → Wd → Int32 → Int32 → Option (Int32 × Wd)
  | 0, _, _, _ => none
  | n + 1, w, x2, x3 => (if (gI w 88 3) ≤ x3 then k42 w x2 else gd (inB ((8 * x1) + x3) 48) (lt (if (gI w 115 ((8 * x1) + x3).toNatClampNeg) = 0 then 0 else ishlI 1 x3 : Int32) (fun x8 => lt (x2 ||| x8 : Int32) (fun x9 => lt (x3 + 1 : Int32) (fun x10 => L_X11_rangIn_4 F x1 k42 n w x9 x10)))))
set_option maxRecDepth 100000 in
set_option maxHeartbeats 4000000 in
theorem sL_X11_rangIn_4 {X : Cx} {S : Sx} {r : Int32 × Wd} {F : Nat} {x1 : Int32} {k42 : Wd → Int32 → Option (Int32 × Wd)} (hX : Ok X S cX11_rangIn RX11 4 rm_X11_rangIn) (hR : HRt X S cX11_rangIn .int r)  (hk42 : ∀ (w : Wd) (x4 : Int32) , k42 w x4 = some r → V X S w 42 [(2, .int x4)] []) : ∀ (n : Nat) (w : Wd) (x2 : Int32) (x3 : Int32) , L_X11_rangIn_4 F x1 k42 n w x2 x3 = some r → V X S w 4 [(0, rf S 88), (1, .int x1), (2, .int x2), (3, .int x3)] [] := by
  intro n
  induction n with
  | zero =>
    intro w x2 x3  hP
    exact nn hP
  | succ n ih =>
    intro w x2 x3  hP
    rw [L_X11_rangIn_4] at hP
    refine V_iload_n hX dX11_rangIn_4 3 rfl ?_
    refine V_aload_n hX dX11_rangIn_5 0 rfl ?_
    refine V_getI hX fk_X11_113 tb_88 (fun _ _ _ => rfl) dX11_rangIn_6 ?_
    refine V_icmp_ge (tgt := 42) hX dX11_rangIn_9 (by decide) (fun hc5 => ?_) (fun hc5 => ?_)
    · replace hP := ite_t hc5 hP
      refine V_sub (lv' := [(2, .int x2)]) [2] rfl ?_
      exact hk42 _ _  hP
    · replace hP := ite_f hc5 hP
      refine V_iload_n hX dX11_rangIn_12 2 rfl ?_
      refine V_aload_n hX dX11_rangIn_13 0 rfl ?_
      refine V_getF (j := 115) hX fk_X11_89 tb_88 (fun _ _ _ => rfl) dX11_rangIn_14 ?_
      refine V_bipush (v := 8) hX dX11_rangIn_17 (by decide) ?_
      refine V_iload_n hX dX11_rangIn_19 1 rfl ?_
      refine V_imul hX dX11_rangIn_20 ?_
      refine V_iload_n hX dX11_rangIn_21 3 rfl ?_
      refine V_iadd hX dX11_rangIn_22 ?_
      obtain ⟨hi6, hP⟩ := gd_e hP
      refine V_zald hX tb_115 hi6 dX11_rangIn_23 ?_
      have k11 : V X S w 34 [(0, rf S 88), (1, .int x1), (2, .int x2), (3, .int x3)] [.int (if (gI w 115 ((8 * x1) + x3).toNatClampNeg) = 0 then 0 else ishlI 1 x3), .int x2] := by
        refine V_topi (fun x8 ex8 => ?_)
        replace hP := lt_r ex8 hP
        refine V_ior hX dX11_rangIn_34 ?_
        refine V_topi (fun x9 ex9 => ?_)
        replace hP := lt_r ex9 hP
        refine V_istore_n (lv' := [(2, .int x9), (0, rf S 88), (1, .int x1), (3, .int x3)]) hX dX11_rangIn_35 (by decide) rfl ?_
        obtain ⟨x10, ex10⟩ : ∃ y : Int32, y = x3 + 1 := ⟨_, rfl⟩
        replace hP := lt_r ex10 hP
        refine V_iinc (v := x10) (lv' := [(3, .int x10), (2, .int x9), (0, rf S 88), (1, .int x1)]) hX dX11_rangIn_36 (j := 3) rfl (by decide) (by rw [ex10]; rfl) rfl ?_
        refine V_goto (tgt := 4) hX dX11_rangIn_39 (by decide) ?_
        refine V_sub (lv' := [(0, rf S 88), (1, .int x1), (2, .int x9), (3, .int x10)]) [2, 3, 1, 0] rfl ?_
        exact ih _ _ _  hP
      refine V_if_eq (tgt := 33) hX dX11_rangIn_24 (by decide) (fun hc7 => ?_) (fun hc7 => ?_)
      · refine V_iconst (v := 0) hX dX11_rangIn_33 (by decide) ?_
        refine V_selT (c := (gI w 115 ((8 * x1) + x3).toNatClampNeg) = 0) (b := ishlI 1 x3) hc7 ?_
        exact k11
      · refine V_iconst (v := 1) hX dX11_rangIn_27 (by decide) ?_
        refine V_iload_n hX dX11_rangIn_28 3 rfl ?_
        refine V_ishl hX dX11_rangIn_29 ?_
        refine V_goto (tgt := 34) hX dX11_rangIn_30 (by decide) ?_
        refine V_selF (c := (gI w 115 ((8 * x1) + x3).toNatClampNeg) = 0) (a := 0) hc7 ?_
        exact k11
def P_X11_rangIn (F : Nat) (w : Wd) (x1 : Int32) : Option (Int32 × Wd) := L_X11_rangIn_4 F x1 (fun w x4 => some (x4, w)) F w 0 0
set_option maxRecDepth 100000 in
set_option maxHeartbeats 4000000 in
theorem s_X11_rangIn {X : Cx} {S : Sx} {r : Int32 × Wd} {F : Nat} {w : Wd} {x1 : Int32}  (hX : Ok X S cX11_rangIn RX11 4 rm_X11_rangIn) (hR : HRt X S cX11_rangIn .int r) (hP : P_X11_rangIn F w x1 = some r) : V X S w 0 [(0, rf S 88), (1, .int x1)] [] := by
  unfold P_X11_rangIn at hP
  refine V_iconst (v := 0) hX dX11_rangIn_0 (by decide) ?_
  refine V_istore_n (lv' := [(2, .int 0), (0, rf S 88), (1, .int x1)]) hX dX11_rangIn_1 (by decide) rfl ?_
  refine V_iconst (v := 0) hX dX11_rangIn_2 (by decide) ?_
  refine V_istore_n (lv' := [(3, .int 0), (2, .int 0), (0, rf S 88), (1, .int x1)]) hX dX11_rangIn_3 (by decide) rfl ?_
  refine V_sub (lv' := [(0, rf S 88), (1, .int x1), (2, .int 0), (3, .int 0)]) [2, 3, 1, 0] rfl ?_
  have k12 : ∀ (w : Wd) (x4 : Int32) , (some (x4, w)) = some r → V X S w 42 [(2, .int x4)] [] := by
    intro w x4  hP
    refine V_iload_n hX dX11_rangIn_42 0 rfl ?_
    exact hR _ _ _ _ (Option.some.inj hP) rfl dX11_rangIn_43
  exact sL_X11_rangIn_4 hX hR  k12 F _ _ _  hP
theorem c_X11_rangIn (l : Launch) (S : Sx) {r : Int32 × Wd} {F : Nat} {w : Wd} {x1 : Int32}  (h : P_X11_rangIn F w x1 = some r) : Met l yX11_rangIn (wsg yX11_rangIn cX11_rangIn 4 (some .int)) rm_X11_rangIn (PC S w [rf S 88, .int x1]) (QCi S r) 0 0 (Aw S) :=
  met_i (by decide) rfl (Nat.le_of_ble_eq_true rfl) ⟨rfl, rfl⟩ (fun X hX hR => s_X11_rangIn  hX hR h)
