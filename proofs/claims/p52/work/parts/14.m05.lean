-- MustNotStop.relieve(II)I
abbrev rm_X10_relieve : Room := { frames := 3, cells := 0, slots := 0, locals := 106 }
theorem nk_X10_relieve : MNk yX10_relieve RX10 2 := ⟨rfl, by decide, by decide, by decide +kernel⟩
def P_X10_relieve (F : Nat) (w : Wd) (x1 : Int32) (x2 : Int32) : Option (Int32 × Wd) := lt (gI w 23 1 : Int32) (fun x3 => bnd (P_X10_letGo F w x1) (fun x5 w4 => (if (0 : Int32) ≤ x5 then bnd (P_X10_grasp F w4 x2) (fun x8 w7 => (if (0 : Int32) ≤ x8 then some (x8, w7) else lt (sI w7 23 1 x3) (fun w10 => some (x8, w10)))) else some (x5, w4))))
set_option maxRecDepth 100000 in
set_option maxHeartbeats 4000000 in
theorem s_X10_relieve {X : Cx} {S : Sx} {r : Int32 × Wd} {F : Nat} {w : Wd} {x1 : Int32} {x2 : Int32}  (hX : Ok X S cX10_relieve RX10 5 rm_X10_relieve) (hR : HRt X S cX10_relieve .int r) (hP : P_X10_relieve F w x1 x2 = some r) : V X S w 0 [(0, rf S 0), (1, .int x1), (2, .int x2)] [] := by
  unfold P_X10_relieve at hP
  refine V_aload_n hX dX10_relieve_0 0 rfl ?_
  refine V_getF (j := 23) hX fk_X10_58 tb_0 (fun _ _ _ => rfl) dX10_relieve_1 ?_
  refine V_getI hX fk_X10_148 tb_23 (fun _ _ _ => rfl) dX10_relieve_4 ?_
  refine V_topi (fun x3 ex3 => ?_)
  replace hP := lt_r ex3 hP
  refine V_istore_n (lv' := [(3, .int x3), (0, rf S 0), (1, .int x1), (2, .int x2)]) hX dX10_relieve_7 (by decide) rfl ?_
  refine V_aload_n hX dX10_relieve_8 1 rfl ?_
  refine V_iload_n hX dX10_relieve_9 2 rfl ?_
  obtain ⟨x5, w4, hcw4, hP⟩ := bnd_e hP
  refine V_callVi (As := [.int x1]) (rest := []) hX mk_X10_190 nk_X10_letGo (fun l => c_X10_letGo l S  hcw4) tb_0 rfl ⟨rfl, rfl, Nat.le_of_ble_eq_true rfl, Nat.le_of_ble_eq_true rfl⟩ rfl rfl (Nat.le_of_ble_eq_true rfl) dX10_relieve_10 ?_
  refine V_istore (lv' := [(4, .int x5), (3, .int x3), (0, rf S 0), (1, .int x1), (2, .int x2)]) hX dX10_relieve_13 (by decide) rfl ?_
  refine V_iload hX dX10_relieve_15 0 rfl ?_
  refine V_if_ge (tgt := 23) hX dX10_relieve_17 (by decide) (fun hc6 => ?_) (fun hc6 => ?_)
  · replace hP := ite_t hc6 hP
    refine V_aload_n hX dX10_relieve_23 2 rfl ?_
    refine V_iload_n hX dX10_relieve_24 4 rfl ?_
    obtain ⟨x8, w7, hcw7, hP⟩ := bnd_e hP
    refine V_callVi (As := [.int x2]) (rest := []) hX mk_X10_184 nk_X10_grasp (fun l => c_X10_grasp l S  hcw7) tb_0 rfl ⟨rfl, rfl, Nat.le_of_ble_eq_true rfl, Nat.le_of_ble_eq_true rfl⟩ rfl rfl (Nat.le_of_ble_eq_true rfl) dX10_relieve_25 ?_
    refine V_istore (lv' := [(4, .int x8), (3, .int x3), (0, rf S 0), (1, .int x1), (2, .int x2)]) hX dX10_relieve_28 (by decide) rfl ?_
    refine V_iload hX dX10_relieve_30 0 rfl ?_
    refine V_if_ge (tgt := 43) hX dX10_relieve_32 (by decide) (fun hc9 => ?_) (fun hc9 => ?_)
    · replace hP := ite_t hc9 hP
      refine V_iload hX dX10_relieve_43 0 rfl ?_
      exact hR _ _ _ _ (Option.some.inj hP) rfl dX10_relieve_45
    · replace hP := ite_f hc9 hP
      refine V_aload_n hX dX10_relieve_35 2 rfl ?_
      refine V_getF (j := 23) hX fk_X10_58 tb_0 (fun _ _ _ => rfl) dX10_relieve_36 ?_
      refine V_iload_n hX dX10_relieve_39 1 rfl ?_
      refine V_putI hX fw_X10_148 tb_23 (fun _ _ _ => ⟨Nat.le_of_ble_eq_true rfl, rfl⟩) dX10_relieve_40 (fun w10 ew10 => ?_)
      replace hP := lt_r ew10 hP
      refine V_iload hX dX10_relieve_43 0 rfl ?_
      exact hR _ _ _ _ (Option.some.inj hP) rfl dX10_relieve_45
  · replace hP := ite_f hc6 hP
    refine V_iload hX dX10_relieve_20 0 rfl ?_
    exact hR _ _ _ _ (Option.some.inj hP) rfl dX10_relieve_22
theorem c_X10_relieve (l : Launch) (S : Sx) {r : Int32 × Wd} {F : Nat} {w : Wd} {x1 : Int32} {x2 : Int32}  (h : P_X10_relieve F w x1 x2 = some r) : Met l yX10_relieve (wsg yX10_relieve cX10_relieve 5 (some .int)) rm_X10_relieve (PC S w [rf S 0, .int x1, .int x2]) (QCi S r) 0 0 (Aw S) :=
  met_i (by decide) rfl (Nat.le_of_ble_eq_true rfl) ⟨rfl, rfl⟩ (fun X hX hR => s_X10_relieve  hX hR h)

-- MustNotStop.act(I)I
abbrev rm_X10_act : Room := { frames := 7, cells := 0, slots := 0, locals := 209 }
theorem nk_X10_act : MNk yX10_act RX10 1 := ⟨rfl, by decide, by decide, by decide +kernel⟩
def P_X10_act (F : Nat) (w : Wd) (x1 : Int32) : Option (Int32 × Wd) := bnd (P_X8_at F w x1) (fun x3 w2 => (if x3 = 99 then bnd (P_X8_number F w2 (x1 + 1) 1) (fun x6 w5 => bnd (P_X8_number F w5 (x1 + 2) 1) (fun x8 w7 => bnd (P_X10_relieve F w7 x6 x8) (fun x10 w9 => some (x10, w9)))) else (if x3 = 108 then bnd (P_X8_number F w2 (x1 + 1) 1) (fun x13 w12 => bnd (P_X10_letGo F w12 x13) (fun x15 w14 => some (x15, w14))) else (if x3 = 109 then bnd (P_X8_number F w2 (x1 + 1) 2) (fun x18 w17 => bnd (P_X10_splice F w17 x18) (fun x20 w19 => some (x20, w19))) else (if x3 = 116 then bnd (P_X8_number F w2 (x1 + 1) 1) (fun x23 w22 => bnd (P_X10_grasp F w22 x23) (fun x25 w24 => some (x25, w24))) else bnd (P_X8_number F w2 x1 3) (fun x27 w26 => bnd (P_X10_pass F w26 x27) (fun x29 w28 => some (x29, w28))))))))
set_option maxRecDepth 100000 in
set_option maxHeartbeats 4000000 in
theorem s_X10_act {X : Cx} {S : Sx} {r : Int32 × Wd} {F : Nat} {w : Wd} {x1 : Int32}  (hX : Ok X S cX10_act RX10 2 rm_X10_act) (hR : HRt X S cX10_act .int r) (hP : P_X10_act F w x1 = some r) : V X S w 0 [(0, rf S 0), (1, .int x1)] [] := by
  unfold P_X10_act at hP
  refine V_aload_n hX dX10_act_0 0 rfl ?_
  refine V_getF (j := 1) hX fk_X10_10 tb_0 (fun _ _ _ => rfl) dX10_act_1 ?_
  refine V_iload_n hX dX10_act_4 1 rfl ?_
  obtain ⟨x3, w2, hcw2, hP⟩ := bnd_e hP
  refine V_callVi (As := [.int x1]) (rest := []) hX mk_X10_219 nk_X8_at (fun l => c_X8_at l S  hcw2) tb_1 rfl ⟨rfl, rfl, Nat.le_of_ble_eq_true rfl, Nat.le_of_ble_eq_true rfl⟩ rfl rfl (Nat.le_of_ble_eq_true rfl) dX10_act_5 ?_
  by_cases hc4 : x3 = 99
  · replace hP := ite_t hc4 hP
    refine V_lookup (tgt := 84) hX dX10_act_8 (by decide) (by rw [hc4] <;> rfl) (by decide) ?_
    refine V_aload_n hX dX10_act_84 0 rfl ?_
    refine V_aload_n hX dX10_act_85 0 rfl ?_
    refine V_getF (j := 1) hX fk_X10_10 tb_0 (fun _ _ _ => rfl) dX10_act_86 ?_
    refine V_iload_n hX dX10_act_89 1 rfl ?_
    refine V_iconst (v := 1) hX dX10_act_90 (by decide) ?_
    refine V_iadd hX dX10_act_91 ?_
    refine V_iconst (v := 1) hX dX10_act_92 (by decide) ?_
    obtain ⟨x6, w5, hcw5, hP⟩ := bnd_e hP
    refine V_callVi (As := [.int (x1 + 1), .int 1]) (rest := [rf S 0]) hX mk_X10_222 nk_X8_number (fun l => c_X8_number l S  hcw5) tb_1 rfl ⟨rfl, rfl, Nat.le_of_ble_eq_true rfl, Nat.le_of_ble_eq_true rfl⟩ rfl rfl (Nat.le_of_ble_eq_true rfl) dX10_act_93 ?_
    refine V_aload_n hX dX10_act_96 0 rfl ?_
    refine V_getF (j := 1) hX fk_X10_10 tb_0 (fun _ _ _ => rfl) dX10_act_97 ?_
    refine V_iload_n hX dX10_act_100 1 rfl ?_
    refine V_iconst (v := 2) hX dX10_act_101 (by decide) ?_
    refine V_iadd hX dX10_act_102 ?_
    refine V_iconst (v := 1) hX dX10_act_103 (by decide) ?_
    obtain ⟨x8, w7, hcw7, hP⟩ := bnd_e hP
    refine V_callVi (As := [.int (x1 + 2), .int 1]) (rest := [.int x6, rf S 0]) hX mk_X10_222 nk_X8_number (fun l => c_X8_number l S  hcw7) tb_1 rfl ⟨rfl, rfl, Nat.le_of_ble_eq_true rfl, Nat.le_of_ble_eq_true rfl⟩ rfl rfl (Nat.le_of_ble_eq_true rfl) dX10_act_104 ?_
    obtain ⟨x10, w9, hcw9, hP⟩ := bnd_e hP
    refine V_callVi (As := [.int x6, .int x8]) (rest := []) hX mk_X10_225 nk_X10_relieve (fun l => c_X10_relieve l S  hcw9) tb_0 rfl ⟨rfl, rfl, Nat.le_of_ble_eq_true rfl, Nat.le_of_ble_eq_true rfl⟩ rfl rfl (Nat.le_of_ble_eq_true rfl) dX10_act_107 ?_
    exact hR _ _ _ _ (Option.some.inj hP) rfl dX10_act_110
  replace hP := ite_f hc4 hP
  by_cases hc11 : x3 = 108
  · replace hP := ite_t hc11 hP
    refine V_lookup (tgt := 68) hX dX10_act_8 (by decide) (by rw [hc11] <;> rfl) (by decide) ?_
    refine V_aload_n hX dX10_act_68 0 rfl ?_
    refine V_aload_n hX dX10_act_69 0 rfl ?_
    refine V_getF (j := 1) hX fk_X10_10 tb_0 (fun _ _ _ => rfl) dX10_act_70 ?_
    refine V_iload_n hX dX10_act_73 1 rfl ?_
    refine V_iconst (v := 1) hX dX10_act_74 (by decide) ?_
    refine V_iadd hX dX10_act_75 ?_
    refine V_iconst (v := 1) hX dX10_act_76 (by decide) ?_
    obtain ⟨x13, w12, hcw12, hP⟩ := bnd_e hP
    refine V_callVi (As := [.int (x1 + 1), .int 1]) (rest := [rf S 0]) hX mk_X10_222 nk_X8_number (fun l => c_X8_number l S  hcw12) tb_1 rfl ⟨rfl, rfl, Nat.le_of_ble_eq_true rfl, Nat.le_of_ble_eq_true rfl⟩ rfl rfl (Nat.le_of_ble_eq_true rfl) dX10_act_77 ?_
    obtain ⟨x15, w14, hcw14, hP⟩ := bnd_e hP
    refine V_callVi (As := [.int x13]) (rest := []) hX mk_X10_190 nk_X10_letGo (fun l => c_X10_letGo l S  hcw14) tb_0 rfl ⟨rfl, rfl, Nat.le_of_ble_eq_true rfl, Nat.le_of_ble_eq_true rfl⟩ rfl rfl (Nat.le_of_ble_eq_true rfl) dX10_act_80 ?_
    exact hR _ _ _ _ (Option.some.inj hP) rfl dX10_act_83
  replace hP := ite_f hc11 hP
  by_cases hc16 : x3 = 109
  · replace hP := ite_t hc16 hP
    refine V_lookup (tgt := 111) hX dX10_act_8 (by decide) (by rw [hc16] <;> rfl) (by decide) ?_
    refine V_aload_n hX dX10_act_111 0 rfl ?_
    refine V_aload_n hX dX10_act_112 0 rfl ?_
    refine V_getF (j := 1) hX fk_X10_10 tb_0 (fun _ _ _ => rfl) dX10_act_113 ?_
    refine V_iload_n hX dX10_act_116 1 rfl ?_
    refine V_iconst (v := 1) hX dX10_act_117 (by decide) ?_
    refine V_iadd hX dX10_act_118 ?_
    refine V_iconst (v := 2) hX dX10_act_119 (by decide) ?_
    obtain ⟨x18, w17, hcw17, hP⟩ := bnd_e hP
    refine V_callVi (As := [.int (x1 + 1), .int 2]) (rest := [rf S 0]) hX mk_X10_222 nk_X8_number (fun l => c_X8_number l S  hcw17) tb_1 rfl ⟨rfl, rfl, Nat.le_of_ble_eq_true rfl, Nat.le_of_ble_eq_true rfl⟩ rfl rfl (Nat.le_of_ble_eq_true rfl) dX10_act_120 ?_
    obtain ⟨x20, w19, hcw19, hP⟩ := bnd_e hP
    refine V_callVi (As := [.int x18]) (rest := []) hX mk_X10_193 nk_X10_splice (fun l => c_X10_splice l S  hcw19) tb_0 rfl ⟨rfl, rfl, Nat.le_of_ble_eq_true rfl, Nat.le_of_ble_eq_true rfl⟩ rfl rfl (Nat.le_of_ble_eq_true rfl) dX10_act_123 ?_
    exact hR _ _ _ _ (Option.some.inj hP) rfl dX10_act_126
  replace hP := ite_f hc16 hP
  by_cases hc21 : x3 = 116
  · replace hP := ite_t hc21 hP
    refine V_lookup (tgt := 52) hX dX10_act_8 (by decide) (by rw [hc21] <;> rfl) (by decide) ?_
    refine V_aload_n hX dX10_act_52 0 rfl ?_
    refine V_aload_n hX dX10_act_53 0 rfl ?_
    refine V_getF (j := 1) hX fk_X10_10 tb_0 (fun _ _ _ => rfl) dX10_act_54 ?_
    refine V_iload_n hX dX10_act_57 1 rfl ?_
    refine V_iconst (v := 1) hX dX10_act_58 (by decide) ?_
    refine V_iadd hX dX10_act_59 ?_
    refine V_iconst (v := 1) hX dX10_act_60 (by decide) ?_
    obtain ⟨x23, w22, hcw22, hP⟩ := bnd_e hP
    refine V_callVi (As := [.int (x1 + 1), .int 1]) (rest := [rf S 0]) hX mk_X10_222 nk_X8_number (fun l => c_X8_number l S  hcw22) tb_1 rfl ⟨rfl, rfl, Nat.le_of_ble_eq_true rfl, Nat.le_of_ble_eq_true rfl⟩ rfl rfl (Nat.le_of_ble_eq_true rfl) dX10_act_61 ?_
    obtain ⟨x25, w24, hcw24, hP⟩ := bnd_e hP
    refine V_callVi (As := [.int x23]) (rest := []) hX mk_X10_184 nk_X10_grasp (fun l => c_X10_grasp l S  hcw24) tb_0 rfl ⟨rfl, rfl, Nat.le_of_ble_eq_true rfl, Nat.le_of_ble_eq_true rfl⟩ rfl rfl (Nat.le_of_ble_eq_true rfl) dX10_act_64 ?_
    exact hR _ _ _ _ (Option.some.inj hP) rfl dX10_act_67
  replace hP := ite_f hc21 hP
  refine V_lookup (tgt := 127) hX dX10_act_8 (by decide) (lk_out (by
      intro q hq
      simp only [List.mem_cons, List.not_mem_nil, or_false] at hq
      rcases hq with rfl | rfl | rfl | rfl
      · exact fun e => hc4 (i32_ext (e.trans rfl))
      · exact fun e => hc11 (i32_ext (e.trans rfl))
      · exact fun e => hc16 (i32_ext (e.trans rfl))
      · exact fun e => hc21 (i32_ext (e.trans rfl))
      )) (by decide) ?_
  refine V_aload_n hX dX10_act_127 0 rfl ?_
  refine V_aload_n hX dX10_act_128 0 rfl ?_
  refine V_getF (j := 1) hX fk_X10_10 tb_0 (fun _ _ _ => rfl) dX10_act_129 ?_
  refine V_iload_n hX dX10_act_132 1 rfl ?_
  refine V_iconst (v := 3) hX dX10_act_133 (by decide) ?_
  obtain ⟨x27, w26, hcw26, hP⟩ := bnd_e hP
  refine V_callVi (As := [.int x1, .int 3]) (rest := [rf S 0]) hX mk_X10_222 nk_X8_number (fun l => c_X8_number l S  hcw26) tb_1 rfl ⟨rfl, rfl, Nat.le_of_ble_eq_true rfl, Nat.le_of_ble_eq_true rfl⟩ rfl rfl (Nat.le_of_ble_eq_true rfl) dX10_act_134 ?_
  obtain ⟨x29, w28, hcw28, hP⟩ := bnd_e hP
  refine V_callVi (As := [.int x27]) (rest := []) hX mk_X10_196 nk_X10_pass (fun l => c_X10_pass l S  hcw28) tb_0 rfl ⟨rfl, rfl, Nat.le_of_ble_eq_true rfl, Nat.le_of_ble_eq_true rfl⟩ rfl rfl (Nat.le_of_ble_eq_true rfl) dX10_act_137 ?_
  exact hR _ _ _ _ (Option.some.inj hP) rfl dX10_act_140
theorem c_X10_act (l : Launch) (S : Sx) {r : Int32 × Wd} {F : Nat} {w : Wd} {x1 : Int32}  (h : P_X10_act F w x1 = some r) : Met l yX10_act (wsg yX10_act cX10_act 2 (some .int)) rm_X10_act (PC S w [rf S 0, .int x1]) (QCi S r) 0 0 (Aw S) :=
  met_i (by decide) rfl (Nat.le_of_ble_eq_true rfl) ⟨rfl, rfl⟩ (fun X hX hR => s_X10_act  hX hR h)

-- MustNotStop.watch()I
abbrev rm_X10_watch : Room := { frames := 8, cells := 0, slots := 0, locals := 230 }
theorem nk_X10_watch : MNk yX10_watch RX10 0 := ⟨rfl, by decide, by decide, by decide +kernel⟩
def K_X10_watch_97 (F : Nat)  (k103 : Wd → Int32 → Int32 → Option (Int32 × Wd)) (rc : Wd → Int32 → Int32 → Int32 → Option (Int32 × Wd)) (w : Wd) (x15 : Int32) (x16 : Int32) (x17 : Int32) : Option (Int32 × Wd) := lt (x17 + 1 : Int32) (fun x18 => rc w x15 x16 x18)
set_option maxRecDepth 100000 in
set_option maxHeartbeats 4000000 in
theorem sK_X10_watch_97 {X : Cx} {S : Sx} {r : Int32 × Wd} {F : Nat}  {k103 : Wd → Int32 → Int32 → Option (Int32 × Wd)} {rc : Wd → Int32 → Int32 → Int32 → Option (Int32 × Wd)} {w : Wd} {x15 : Int32} {x16 : Int32} {x17 : Int32} (hX : Ok X S cX10_watch RX10 5 rm_X10_watch) (hR : HRt X S cX10_watch .int r)  (hk103 : ∀ (w : Wd) (x8 : Int32) (x9 : Int32) , k103 w x8 x9 = some r → V X S w 103 [(0, rf S 0), (2, .int x8), (3, .int x9)] []) (hrc : ∀ (w : Wd) (x5 : Int32) (x6 : Int32) (x7 : Int32) , rc w x5 x6 x7 = some r → V X S w 42 [(0, rf S 0), (2, .int x5), (3, .int x6), (4, .int x7)] [])  (hP : K_X10_watch_97 F  k103 rc w x15 x16 x17 = some r) : V X S w 97 [(0, rf S 0), (2, .int x15), (3, .int x16), (4, .int x17)] [] := by
  unfold K_X10_watch_97 at hP
  obtain ⟨x18, ex18⟩ : ∃ y : Int32, y = x17 + 1 := ⟨_, rfl⟩
  replace hP := lt_r ex18 hP
  refine V_iinc (v := x18) (lv' := [(4, .int x18), (0, rf S 0), (2, .int x15), (3, .int x16)]) hX dX10_watch_97 (j := 3) rfl (by decide) (by rw [ex18]; rfl) rfl ?_
  refine V_goto (tgt := 42) hX dX10_watch_100 (by decide) ?_
  refine V_sub (lv' := [(0, rf S 0), (2, .int x15), (3, .int x16), (4, .int x18)]) [1, 2, 3, 0] rfl ?_
  exact hrc _ _ _ _  hP
def L_X10_watch_42 (F : Nat)  (k103 : Wd → Int32 → Int32 → Option (Int32 × Wd)) : Nat → Wd → Int32 → Int32 → Int32 → Option (Int32 × Wd)
  | 0, _, _, _, _ => none
  | n + 1, w, x5, x6, x7 => (if (gI w 1 1) ≤ x7 then k103 w x5 x6 else (if x6 = 0 then bnd (P_X0_beginsAt F w x7) (fun x13 w12 => (if x13 = 0 then K_X10_watch_97 F  k103 ((L_X10_watch_42 F  k103 n)) w12 x5 x6 x7 else bnd (P_X10_act F w12 x7) (fun x20 w19 => lt (if (0 : Int32) ≤ x20 then 0 else 1 : Int32) (fun x22 => lt (if x22 = 0 then 1 else 0 : Int32) (fun x24 => lt (x5 + x24 : Int32) (fun x25 => K_X10_watch_97 F  k103 ((L_X10_watch_42 F  k103 n)) w19 x25 x22 x7)))))) else k103 w x5 x6))
set_option maxRecDepth 100000 in
set_option maxHeartbeats 4000000 in
theorem sL_X10_watch_42 {X : Cx} {S : Sx} {r : Int32 × Wd} {F : Nat}  {k103 : Wd → Int32 → Int32 → Option (Int32 × Wd)} (hX : Ok X S cX10_watch RX10 5 rm_X10_watch) (hR : HRt X S cX10_watch .int r)  (hk103 : ∀ (w : Wd) (x8 : Int32) (x9 : Int32) , k103 w x8 x9 = some r → V X S w 103 [(0, rf S 0), (2, .int x8), (3, .int x9)] []) : ∀ (n : Nat) (w : Wd) (x5 : Int32) (x6 : Int32) (x7 : Int32) , L_X10_watch_42 F  k103 n w x5 x6 x7 = some r → V X S w 42 [(0, rf S 0), (2, .int x5), (3, .int x6), (4, .int x7)] [] := by
  intro n
  induction n with
  | zero =>
    intro w x5 x6 x7  hP
    exact nn hP
  | succ n ih =>
    intro w x5 x6 x7  hP
    rw [L_X10_watch_42] at hP
    refine V_iload hX dX10_watch_42 3 rfl ?_
    refine V_aload_n hX dX10_watch_44 0 rfl ?_
    refine V_getF (j := 1) hX fk_X10_10 tb_0 (fun _ _ _ => rfl) dX10_watch_45 ?_
    refine V_getI hX fk_X10_97 tb_1 (fun _ _ _ => rfl) dX10_watch_48 ?_
    refine V_icmp_ge (tgt := 103) hX dX10_watch_51 (by decide) (fun hc10 => ?_) (fun hc10 => ?_)
    · replace hP := ite_t hc10 hP
      refine V_sub (lv' := [(0, rf S 0), (2, .int x5), (3, .int x6)]) [0, 1, 2] rfl ?_
      exact hk103 _ _ _  hP
    · replace hP := ite_f hc10 hP
      refine V_iload_n hX dX10_watch_54 2 rfl ?_
      refine V_if_ne (tgt := 103) hX dX10_watch_55 (by decide) (fun hc11 => ?_) (fun hc11 => ?_)
      · replace hP := ite_f hc11 hP
        refine V_sub (lv' := [(0, rf S 0), (2, .int x5), (3, .int x6)]) [0, 1, 2] rfl ?_
        exact hk103 _ _ _  hP
      · replace hP := ite_t hc11 hP
        refine V_aload_n hX dX10_watch_58 0 rfl ?_
        refine V_getF (j := 1) hX fk_X10_10 tb_0 (fun _ _ _ => rfl) dX10_watch_59 ?_
        refine V_iload hX dX10_watch_62 3 rfl ?_
        obtain ⟨x13, w12, hcw12, hP⟩ := bnd_e hP
        refine V_callSi (As := [rf S 1, .int x7]) (rest := []) hX mk_X10_209 nk_X0_beginsAt (fun l => c_X0_beginsAt l S  hcw12) ⟨rfl, rfl, Nat.le_of_ble_eq_true rfl, Nat.le_of_ble_eq_true rfl⟩ rfl rfl (Nat.le_of_ble_eq_true rfl) dX10_watch_64 ?_
        refine V_if_eq (tgt := 97) hX dX10_watch_67 (by decide) (fun hc14 => ?_) (fun hc14 => ?_)
        · replace hP := ite_t hc14 hP
          exact sK_X10_watch_97 hX hR  hk103 ih  hP
        · replace hP := ite_f hc14 hP
          refine V_aload_n hX dX10_watch_70 0 rfl ?_
          refine V_iload hX dX10_watch_71 3 rfl ?_
          obtain ⟨x20, w19, hcw19, hP⟩ := bnd_e hP
          refine V_callVi (As := [.int x7]) (rest := []) hX mk_X10_213 nk_X10_act (fun l => c_X10_act l S  hcw19) tb_0 rfl ⟨rfl, rfl, Nat.le_of_ble_eq_true rfl, Nat.le_of_ble_eq_true rfl⟩ rfl rfl (Nat.le_of_ble_eq_true rfl) dX10_watch_73 ?_
          have k27 : V X S w19 84 [(0, rf S 0), (2, .int x5), (3, .int x6), (4, .int x7)] [.int (if (0 : Int32) ≤ x20 then 0 else 1)] := by
            refine V_topi (fun x22 ex22 => ?_)
            replace hP := lt_r ex22 hP
            refine V_istore_n (lv' := [(3, .int x22), (0, rf S 0), (2, .int x5), (4, .int x7)]) hX dX10_watch_84 (by decide) rfl ?_
            refine V_iload_n hX dX10_watch_85 2 rfl ?_
            refine V_iload_n hX dX10_watch_86 0 rfl ?_
            have k26 : V X S w19 95 [(3, .int x22), (0, rf S 0), (2, .int x5), (4, .int x7)] [.int (if x22 = 0 then 1 else 0), .int x5] := by
              refine V_topi (fun x24 ex24 => ?_)
              replace hP := lt_r ex24 hP
              refine V_iadd hX dX10_watch_95 ?_
              refine V_topi (fun x25 ex25 => ?_)
              replace hP := lt_r ex25 hP
              refine V_istore_n (lv' := [(2, .int x25), (3, .int x22), (0, rf S 0), (4, .int x7)]) hX dX10_watch_96 (by decide) rfl ?_
              refine V_sub (lv' := [(0, rf S 0), (2, .int x25), (3, .int x22), (4, .int x7)]) [2, 0, 1, 3] rfl ?_
              exact sK_X10_watch_97 hX hR  hk103 ih  hP
            refine V_if_eq (tgt := 94) hX dX10_watch_87 (by decide) (fun hc23 => ?_) (fun hc23 => ?_)
            · refine V_iconst (v := 1) hX dX10_watch_94 (by decide) ?_
              refine V_selT (c := x22 = 0) (b := 0) hc23 ?_
              exact k26
            · refine V_iconst (v := 0) hX dX10_watch_90 (by decide) ?_
              refine V_goto (tgt := 95) hX dX10_watch_91 (by decide) ?_
              refine V_selF (c := x22 = 0) (a := 1) hc23 ?_
              exact k26
          refine V_if_ge (tgt := 83) hX dX10_watch_76 (by decide) (fun hc21 => ?_) (fun hc21 => ?_)
          · refine V_iconst (v := 0) hX dX10_watch_83 (by decide) ?_
            refine V_selT (c := (0 : Int32) ≤ x20) (b := 1) hc21 ?_
            exact k27
          · refine V_iconst (v := 1) hX dX10_watch_79 (by decide) ?_
            refine V_goto (tgt := 84) hX dX10_watch_80 (by decide) ?_
            refine V_selF (c := (0 : Int32) ≤ x20) (a := 0) hc21 ?_
            exact k27
def K_X10_watch_126 (F : Nat)   (w : Wd) (x32 : Int32) (x33 : Int32) : Option (Int32 × Wd) := lt (if x33 = 0 then 0 else 1 : Int64) (fun x35 => bnv (P_X10_tell F w x35 (Int32.toInt64 ((gI w 23 6) - (gI w 27 6)))) (fun w36 => some (x32, w36)))
set_option maxRecDepth 100000 in
set_option maxHeartbeats 4000000 in
theorem sK_X10_watch_126 {X : Cx} {S : Sx} {r : Int32 × Wd} {F : Nat}   {w : Wd} {x32 : Int32} {x33 : Int32} (hX : Ok X S cX10_watch RX10 5 rm_X10_watch) (hR : HRt X S cX10_watch .int r)    (hP : K_X10_watch_126 F   w x32 x33 = some r) : V X S w 126 [(0, rf S 0), (2, .int x32), (3, .int x33)] [] := by
  unfold K_X10_watch_126 at hP
  refine V_aload_n hX dX10_watch_126 0 rfl ?_
  refine V_iload_n hX dX10_watch_127 2 rfl ?_
  have k37 : V X S w 136 [(0, rf S 0), (2, .int x32), (3, .int x33)] [.long (if x33 = 0 then 0 else 1), rf S 0] := by
    refine V_topl (fun x35 ex35 => ?_)
    replace hP := lt_r ex35 hP
    refine V_aload_n hX dX10_watch_136 0 rfl ?_
    refine V_getF (j := 23) hX fk_X10_58 tb_0 (fun _ _ _ => rfl) dX10_watch_137 ?_
    refine V_getI hX fk_X10_199 tb_23 (fun _ _ _ => rfl) dX10_watch_140 ?_
    refine V_aload_n hX dX10_watch_143 0 rfl ?_
    refine V_getF (j := 27) hX fk_X10_65 tb_0 (fun _ _ _ => rfl) dX10_watch_144 ?_
    refine V_getI hX fk_X10_199 tb_27 (fun _ _ _ => rfl) dX10_watch_147 ?_
    refine V_isub hX dX10_watch_150 ?_
    refine V_i2l hX dX10_watch_151 ?_
    obtain ⟨w36, hcw36, hP⟩ := bnv_e hP
    refine V_callVv (As := [.long x35, .long (Int32.toInt64 ((gI w 23 6) - (gI w 27 6)))]) (rest := []) hX mk_X10_202 nk_X10_tell (fun l => c_X10_tell l S  hcw36) tb_0 rfl ⟨rfl, rfl, Nat.le_of_ble_eq_true rfl, Nat.le_of_ble_eq_true rfl⟩ rfl rfl (Nat.le_of_ble_eq_true rfl) dX10_watch_152 ?_
    refine V_iload_n hX dX10_watch_155 1 rfl ?_
    exact hR _ _ _ _ (Option.some.inj hP) rfl dX10_watch_156
  refine V_if_eq (tgt := 135) hX dX10_watch_128 (by decide) (fun hc34 => ?_) (fun hc34 => ?_)
  · refine V_lconst (v := 0) hX dX10_watch_135 rfl ?_
    refine V_selTl (c := x33 = 0) (b := 1) hc34 ?_
    exact k37
  · refine V_lconst (v := 1) hX dX10_watch_131 rfl ?_
    refine V_goto (tgt := 136) hX dX10_watch_132 (by decide) ?_
    refine V_selFl (c := x33 = 0) (a := 0) hc34 ?_
    exact k37
def K_X10_watch_103 (F : Nat)   (w : Wd) (x28 : Int32) (x29 : Int32) : Option (Int32 × Wd) := lt (sI w 1 1 0) (fun w30 => (if x28 ≤ 0 then K_X10_watch_126 F   w30 x28 x29 else bnv (P_X4_push F w30 27) (fun w38 => K_X10_watch_126 F   w38 x28 x29)))
set_option maxRecDepth 100000 in
set_option maxHeartbeats 4000000 in
theorem sK_X10_watch_103 {X : Cx} {S : Sx} {r : Int32 × Wd} {F : Nat}   {w : Wd} {x28 : Int32} {x29 : Int32} (hX : Ok X S cX10_watch RX10 5 rm_X10_watch) (hR : HRt X S cX10_watch .int r)    (hP : K_X10_watch_103 F   w x28 x29 = some r) : V X S w 103 [(0, rf S 0), (2, .int x28), (3, .int x29)] [] := by
  unfold K_X10_watch_103 at hP
  refine V_aload_n hX dX10_watch_103 0 rfl ?_
  refine V_getF (j := 1) hX fk_X10_10 tb_0 (fun _ _ _ => rfl) dX10_watch_104 ?_
  refine V_iconst (v := 0) hX dX10_watch_107 (by decide) ?_
  refine V_putI hX fw_X10_97 tb_1 (fun _ _ _ => ⟨Nat.le_of_ble_eq_true rfl, rfl⟩) dX10_watch_108 (fun w30 ew30 => ?_)
  replace hP := lt_r ew30 hP
  refine V_iload_n hX dX10_watch_111 1 rfl ?_
  refine V_if_le (tgt := 126) hX dX10_watch_112 (by decide) (fun hc31 => ?_) (fun hc31 => ?_)
  · replace hP := ite_t hc31 hP
    exact sK_X10_watch_126 hX hR    hP
  · replace hP := ite_f hc31 hP
    refine V_aload_n hX dX10_watch_115 0 rfl ?_
    refine V_getF (j := 29) hX fk_X10_71 tb_0 (fun _ _ _ => rfl) dX10_watch_116 ?_
    refine V_aload_n hX dX10_watch_119 0 rfl ?_
    refine V_getF (j := 27) hX fk_X10_65 tb_0 (fun _ _ _ => rfl) dX10_watch_120 ?_
    obtain ⟨w38, hcw38, hP⟩ := bnv_e hP
    refine V_callVv (As := [rf S 27]) (rest := []) hX mk_X10_216 nk_X4_push (fun l => c_X4_push l S (by decide) hcw38) tb_29 rfl ⟨rfl, rfl, Nat.le_of_ble_eq_true rfl, Nat.le_of_ble_eq_true rfl⟩ rfl rfl (Nat.le_of_ble_eq_true rfl) dX10_watch_123 ?_
    exact sK_X10_watch_126 hX hR    hP
def P_X10_watch (F : Nat) (w : Wd)  : Option (Int32 × Wd) := bnd (P_X0_faultIn F w ) (fun x2 w1 => (if x2 < 0 then bnv (P_X1_copy F w1 27 23) (fun w4 => L_X10_watch_42 F  (fun w x8 x9 => K_X10_watch_103 F   w x8 x9) F w4 0 0 0) else lt (sI w1 1 1 0) (fun w40 => some (((-1)) - x2, w40))))
set_option maxRecDepth 100000 in
set_option maxHeartbeats 4000000 in
theorem s_X10_watch {X : Cx} {S : Sx} {r : Int32 × Wd} {F : Nat} {w : Wd}   (hX : Ok X S cX10_watch RX10 5 rm_X10_watch) (hR : HRt X S cX10_watch .int r) (hP : P_X10_watch F w  = some r) : V X S w 0 [(0, rf S 0)] [] := by
  unfold P_X10_watch at hP
  refine V_aload_n hX dX10_watch_0 0 rfl ?_
  refine V_getF (j := 1) hX fk_X10_10 tb_0 (fun _ _ _ => rfl) dX10_watch_1 ?_
  obtain ⟨x2, w1, hcw1, hP⟩ := bnd_e hP
  refine V_callSi (As := [rf S 1]) (rest := []) hX mk_X10_206 nk_X0_faultIn (fun l => c_X0_faultIn l S  hcw1) ⟨rfl, rfl, Nat.le_of_ble_eq_true rfl, Nat.le_of_ble_eq_true rfl⟩ rfl rfl (Nat.le_of_ble_eq_true rfl) dX10_watch_4 ?_
  refine V_istore_n (lv' := [(1, .int x2), (0, rf S 0)]) hX dX10_watch_7 (by decide) rfl ?_
  refine V_iload_n hX dX10_watch_8 0 rfl ?_
  refine V_if_lt (tgt := 24) hX dX10_watch_9 (by decide) (fun hc3 => ?_) (fun hc3 => ?_)
  · replace hP := ite_t hc3 hP
    refine V_aload_n hX dX10_watch_24 1 rfl ?_
    refine V_getF (j := 27) hX fk_X10_65 tb_0 (fun _ _ _ => rfl) dX10_watch_25 ?_
    refine V_aload_n hX dX10_watch_28 1 rfl ?_
    refine V_getF (j := 23) hX fk_X10_58 tb_0 (fun _ _ _ => rfl) dX10_watch_29 ?_
    obtain ⟨w4, hcw4, hP⟩ := bnv_e hP
    refine V_callVv (As := [rf S 23]) (rest := []) hX mk_X10_180 nk_X1_copy (fun l => c_X1_copy l S (by decide) (by decide) hcw4) tb_27 rfl ⟨rfl, rfl, Nat.le_of_ble_eq_true rfl, Nat.le_of_ble_eq_true rfl⟩ rfl rfl (Nat.le_of_ble_eq_true rfl) dX10_watch_32 ?_
    refine V_iconst (v := 0) hX dX10_watch_35 (by decide) ?_
    refine V_istore_n (lv' := [(2, .int 0), (1, .int x2), (0, rf S 0)]) hX dX10_watch_36 (by decide) rfl ?_
    refine V_iconst (v := 0) hX dX10_watch_37 (by decide) ?_
    refine V_istore_n (lv' := [(3, .int 0), (2, .int 0), (1, .int x2), (0, rf S 0)]) hX dX10_watch_38 (by decide) rfl ?_
    refine V_iconst (v := 0) hX dX10_watch_39 (by decide) ?_
    refine V_istore (lv' := [(4, .int 0), (3, .int 0), (2, .int 0), (1, .int x2), (0, rf S 0)]) hX dX10_watch_40 (by decide) rfl ?_
    refine V_sub (lv' := [(0, rf S 0), (2, .int 0), (3, .int 0), (4, .int 0)]) [4, 2, 1, 0] rfl ?_
    have k39 : ∀ (w : Wd) (x8 : Int32) (x9 : Int32) , (K_X10_watch_103 F   w x8 x9) = some r → V X S w 103 [(0, rf S 0), (2, .int x8), (3, .int x9)] [] := by
      intro w x8 x9  hP
      exact sK_X10_watch_103 hX hR    hP
    exact sL_X10_watch_42 hX hR  k39 F _ _ _ _  hP
  · replace hP := ite_f hc3 hP
    refine V_aload_n hX dX10_watch_12 1 rfl ?_
    refine V_getF (j := 1) hX fk_X10_10 tb_0 (fun _ _ _ => rfl) dX10_watch_13 ?_
    refine V_iconst (v := 0) hX dX10_watch_16 (by decide) ?_
    refine V_putI hX fw_X10_97 tb_1 (fun _ _ _ => ⟨Nat.le_of_ble_eq_true rfl, rfl⟩) dX10_watch_17 (fun w40 ew40 => ?_)
    replace hP := lt_r ew40 hP
    refine V_iconst (v := (-1)) hX dX10_watch_20 (by decide) ?_
    refine V_iload_n hX dX10_watch_21 0 rfl ?_
    refine V_isub hX dX10_watch_22 ?_
    exact hR _ _ _ _ (Option.some.inj hP) rfl dX10_watch_23
theorem c_X10_watch (l : Launch) (S : Sx) {r : Int32 × Wd} {F : Nat} {w : Wd}   (h : P_X10_watch F w  = some r) : Met l yX10_watch (wsg yX10_watch cX10_watch 5 (some .int)) rm_X10_watch (PC S w [rf S 0]) (QCi S r) 0 0 (Aw S) :=
  met_i (by decide) rfl (Nat.le_of_ble_eq_true rfl) ⟨rfl, rfl⟩ (fun X hX hR => s_X10_watch  hX hR h)

-- MustNotStop.undo()I
abbrev rm_X10_undo : Room := { frames := 3, cells := 0, slots := 0, locals := 108 }
theorem nk_X10_undo : MNk yX10_undo RX10 0 := ⟨rfl, by decide, by decide, by decide +kernel⟩
def P_X10_undo (F : Nat) (w : Wd)  : Option (Int32 × Wd) := bnd (P_X4_pop F w 23) (fun x2 w1 => some (x2, w1))
set_option maxRecDepth 100000 in
set_option maxHeartbeats 4000000 in
theorem s_X10_undo {X : Cx} {S : Sx} {r : Int32 × Wd} {F : Nat} {w : Wd}   (hX : Ok X S cX10_undo RX10 1 rm_X10_undo) (hR : HRt X S cX10_undo .int r) (hP : P_X10_undo F w  = some r) : V X S w 0 [(0, rf S 0)] [] := by
  unfold P_X10_undo at hP
  refine V_aload_n hX dX10_undo_0 0 rfl ?_
  refine V_getF (j := 29) hX fk_X10_71 tb_0 (fun _ _ _ => rfl) dX10_undo_1 ?_
  refine V_aload_n hX dX10_undo_4 0 rfl ?_
  refine V_getF (j := 23) hX fk_X10_58 tb_0 (fun _ _ _ => rfl) dX10_undo_5 ?_
  obtain ⟨x2, w1, hcw1, hP⟩ := bnd_e hP
  refine V_callVi (As := [rf S 23]) (rest := []) hX mk_X10_242 nk_X4_pop (fun l => c_X4_pop l S (by decide) hcw1) tb_29 rfl ⟨rfl, rfl, Nat.le_of_ble_eq_true rfl, Nat.le_of_ble_eq_true rfl⟩ rfl rfl (Nat.le_of_ble_eq_true rfl) dX10_undo_8 ?_
  exact hR _ _ _ _ (Option.some.inj hP) rfl dX10_undo_11
theorem c_X10_undo (l : Launch) (S : Sx) {r : Int32 × Wd} {F : Nat} {w : Wd}   (h : P_X10_undo F w  = some r) : Met l yX10_undo (wsg yX10_undo cX10_undo 1 (some .int)) rm_X10_undo (PC S w [rf S 0]) (QCi S r) 0 0 (Aw S) :=
  met_i (by decide) rfl (Nat.le_of_ble_eq_true rfl) ⟨rfl, rfl⟩ (fun X hX hR => s_X10_undo  hX hR h)

-- MustNotStop.countFurther(I)I
abbrev rm_X10_countFurther : Room := { frames := 1, cells := 0, slots := 0, locals := 64 }
theorem nk_X10_countFurther : MNk yX10_countFurther RX10 1 := ⟨rfl, by decide, by decide, by decide +kernel⟩
def P_X10_countFurther (F : Nat) (w : Wd) (x1 : Int32) : Option (Int32 × Wd) := (if x1 = 9 then some (gI w 23 8, w) else (if x1 = 10 then some (gI w 5 3, w) else (if x1 = 11 then some (gI w 5 4, w) else (if x1 = 12 then some (gI w 5 5, w) else (if x1 = 13 then some (gI w 76 3, w) else (if x1 = 14 then some (gI w 29 2, w) else (if x1 = 15 then some (gI w 3 1, w) else (if x1 = 16 then some (gI w 1 1, w) else some ((-100), w)))))))))
set_option maxRecDepth 100000 in
set_option maxHeartbeats 4000000 in
theorem s_X10_countFurther {X : Cx} {S : Sx} {r : Int32 × Wd} {F : Nat} {w : Wd} {x1 : Int32}  (hX : Ok X S cX10_countFurther RX10 2 rm_X10_countFurther) (hR : HRt X S cX10_countFurther .int r) (hP : P_X10_countFurther F w x1 = some r) : V X S w 0 [(0, rf S 0), (1, .int x1)] [] := by
  unfold P_X10_countFurther at hP
  refine V_iload_n hX dX10_countFurther_0 1 rfl ?_
  by_cases hc2 : x1 = 9
  · replace hP := ite_t hc2 hP
    refine V_tableIn (tgt := 48) hX dX10_countFurther_1 (by rw [hc2]; decide) (by rw [hc2]; decide) (by rw [hc2] <;> rfl) (by decide) ?_
    refine V_aload_n hX dX10_countFurther_48 0 rfl ?_
    refine V_getF (j := 23) hX fk_X10_58 tb_0 (fun _ _ _ => rfl) dX10_countFurther_49 ?_
    refine V_getI hX fk_X10_145 tb_23 (fun _ _ _ => rfl) dX10_countFurther_52 ?_
    exact hR _ _ _ _ (Option.some.inj hP) rfl dX10_countFurther_55
  replace hP := ite_f hc2 hP
  by_cases hc3 : x1 = 10
  · replace hP := ite_t hc3 hP
    refine V_tableIn (tgt := 56) hX dX10_countFurther_1 (by rw [hc3]; decide) (by rw [hc3]; decide) (by rw [hc3] <;> rfl) (by decide) ?_
    refine V_aload_n hX dX10_countFurther_56 0 rfl ?_
    refine V_getF (j := 5) hX fk_X10_34 tb_0 (fun _ _ _ => rfl) dX10_countFurther_57 ?_
    refine V_getI hX fk_X10_151 tb_5 (fun _ _ _ => rfl) dX10_countFurther_60 ?_
    exact hR _ _ _ _ (Option.some.inj hP) rfl dX10_countFurther_63
  replace hP := ite_f hc3 hP
  by_cases hc4 : x1 = 11
  · replace hP := ite_t hc4 hP
    refine V_tableIn (tgt := 64) hX dX10_countFurther_1 (by rw [hc4]; decide) (by rw [hc4]; decide) (by rw [hc4] <;> rfl) (by decide) ?_
    refine V_aload_n hX dX10_countFurther_64 0 rfl ?_
    refine V_getF (j := 5) hX fk_X10_34 tb_0 (fun _ _ _ => rfl) dX10_countFurther_65 ?_
    refine V_getI hX fk_X10_154 tb_5 (fun _ _ _ => rfl) dX10_countFurther_68 ?_
    exact hR _ _ _ _ (Option.some.inj hP) rfl dX10_countFurther_71
  replace hP := ite_f hc4 hP
  by_cases hc5 : x1 = 12
  · replace hP := ite_t hc5 hP
    refine V_tableIn (tgt := 72) hX dX10_countFurther_1 (by rw [hc5]; decide) (by rw [hc5]; decide) (by rw [hc5] <;> rfl) (by decide) ?_
    refine V_aload_n hX dX10_countFurther_72 0 rfl ?_
    refine V_getF (j := 5) hX fk_X10_34 tb_0 (fun _ _ _ => rfl) dX10_countFurther_73 ?_
    refine V_getI hX fk_X10_157 tb_5 (fun _ _ _ => rfl) dX10_countFurther_76 ?_
    exact hR _ _ _ _ (Option.some.inj hP) rfl dX10_countFurther_79
  replace hP := ite_f hc5 hP
  by_cases hc6 : x1 = 13
  · replace hP := ite_t hc6 hP
    refine V_tableIn (tgt := 80) hX dX10_countFurther_1 (by rw [hc6]; decide) (by rw [hc6]; decide) (by rw [hc6] <;> rfl) (by decide) ?_
    refine V_aload_n hX dX10_countFurther_80 0 rfl ?_
    refine V_getF (j := 76) hX fk_X10_93 tb_0 (fun _ _ _ => rfl) dX10_countFurther_81 ?_
    refine V_getI hX fk_X10_312 tb_76 (fun _ _ _ => rfl) dX10_countFurther_84 ?_
    exact hR _ _ _ _ (Option.some.inj hP) rfl dX10_countFurther_87
  replace hP := ite_f hc6 hP
  by_cases hc7 : x1 = 14
  · replace hP := ite_t hc7 hP
    refine V_tableIn (tgt := 88) hX dX10_countFurther_1 (by rw [hc7]; decide) (by rw [hc7]; decide) (by rw [hc7] <;> rfl) (by decide) ?_
    refine V_aload_n hX dX10_countFurther_88 0 rfl ?_
    refine V_getF (j := 29) hX fk_X10_71 tb_0 (fun _ _ _ => rfl) dX10_countFurther_89 ?_
    refine V_getI hX fk_X10_363 tb_29 (fun _ _ _ => rfl) dX10_countFurther_92 ?_
    exact hR _ _ _ _ (Option.some.inj hP) rfl dX10_countFurther_95
  replace hP := ite_f hc7 hP
  by_cases hc8 : x1 = 15
  · replace hP := ite_t hc8 hP
    refine V_tableIn (tgt := 96) hX dX10_countFurther_1 (by rw [hc8]; decide) (by rw [hc8]; decide) (by rw [hc8] <;> rfl) (by decide) ?_
    refine V_aload_n hX dX10_countFurther_96 0 rfl ?_
    refine V_getF (j := 3) hX fk_X10_19 tb_0 (fun _ _ _ => rfl) dX10_countFurther_97 ?_
    refine V_getI hX fk_X10_364 tb_3 (fun _ _ _ => rfl) dX10_countFurther_100 ?_
    exact hR _ _ _ _ (Option.some.inj hP) rfl dX10_countFurther_103
  replace hP := ite_f hc8 hP
  by_cases hc9 : x1 = 16
  · replace hP := ite_t hc9 hP
    refine V_tableIn (tgt := 104) hX dX10_countFurther_1 (by rw [hc9]; decide) (by rw [hc9]; decide) (by rw [hc9] <;> rfl) (by decide) ?_
    refine V_aload_n hX dX10_countFurther_104 0 rfl ?_
    refine V_getF (j := 1) hX fk_X10_10 tb_0 (fun _ _ _ => rfl) dX10_countFurther_105 ?_
    refine V_getI hX fk_X10_97 tb_1 (fun _ _ _ => rfl) dX10_countFurther_108 ?_
    exact hR _ _ _ _ (Option.some.inj hP) rfl dX10_countFurther_111
  replace hP := ite_f hc9 hP
  refine V_tableOut (tgt := 112) hX dX10_countFurther_1 (ts_out (fun k h1 h2 => by
      have hk : k = 9 ∨ k = 10 ∨ k = 11 ∨ k = 12 ∨ k = 13 ∨ k = 14 ∨ k = 15 ∨ k = 16 := by omega
      rcases hk with rfl | rfl | rfl | rfl | rfl | rfl | rfl | rfl
      · exact fun e => hc2 (by rw [e]; rfl)
      · exact fun e => hc3 (by rw [e]; rfl)
      · exact fun e => hc4 (by rw [e]; rfl)
      · exact fun e => hc5 (by rw [e]; rfl)
      · exact fun e => hc6 (by rw [e]; rfl)
      · exact fun e => hc7 (by rw [e]; rfl)
      · exact fun e => hc8 (by rw [e]; rfl)
      · exact fun e => hc9 (by rw [e]; rfl)
      )) (by decide) ?_
  refine V_bipush (v := (-100)) hX dX10_countFurther_112 (by decide) ?_
  exact hR _ _ _ _ (Option.some.inj hP) rfl dX10_countFurther_114
theorem c_X10_countFurther (l : Launch) (S : Sx) {r : Int32 × Wd} {F : Nat} {w : Wd} {x1 : Int32}  (h : P_X10_countFurther F w x1 = some r) : Met l yX10_countFurther (wsg yX10_countFurther cX10_countFurther 2 (some .int)) rm_X10_countFurther (PC S w [rf S 0, .int x1]) (QCi S r) 0 0 (Aw S) :=
  met_i (by decide) rfl (Nat.le_of_ble_eq_true rfl) ⟨rfl, rfl⟩ (fun X hX hR => s_X10_countFurther  hX hR h)

-- MustNotStop.count(I)I
abbrev rm_X10_count : Room := { frames := 2, cells := 0, slots := 0, locals := 85 }
theorem nk_X10_count : MNk yX10_count RX10 1 := ⟨rfl, by decide, by decide, by decide +kernel⟩
def P_X10_count (F : Nat) (w : Wd) (x1 : Int32) : Option (Int32 × Wd) := (if x1 = 0 then some (gI w 6 2, w) else (if x1 = 1 then some (gI w 9 2, w) else (if x1 = 2 then some (gI w 23 1, w) else (if x1 = 3 then some (gI w 23 2, w) else (if x1 = 4 then some (gI w 23 3, w) else (if x1 = 5 then some (gI w 23 4, w) else (if x1 = 6 then some (gI w 23 5, w) else (if x1 = 7 then some (gI w 23 6, w) else (if x1 = 8 then some (gI w 23 7, w) else bnd (P_X10_countFurther F w x1) (fun x12 w11 => some (x12, w11)))))))))))
set_option maxRecDepth 100000 in
set_option maxHeartbeats 4000000 in
theorem s_X10_count {X : Cx} {S : Sx} {r : Int32 × Wd} {F : Nat} {w : Wd} {x1 : Int32}  (hX : Ok X S cX10_count RX10 2 rm_X10_count) (hR : HRt X S cX10_count .int r) (hP : P_X10_count F w x1 = some r) : V X S w 0 [(0, rf S 0), (1, .int x1)] [] := by
  unfold P_X10_count at hP
  refine V_iload_n hX dX10_count_0 1 rfl ?_
  by_cases hc2 : x1 = 0
  · replace hP := ite_t hc2 hP
    refine V_tableIn (tgt := 52) hX dX10_count_1 (by rw [hc2]; decide) (by rw [hc2]; decide) (by rw [hc2] <;> rfl) (by decide) ?_
    refine V_aload_n hX dX10_count_52 0 rfl ?_
    refine V_getF (j := 5) hX fk_X10_34 tb_0 (fun _ _ _ => rfl) dX10_count_53 ?_
    refine V_getF (j := 6) hX fk_X10_38 tb_5 (fun _ _ _ => rfl) dX10_count_56 ?_
    refine V_getI hX fk_X10_301 tb_6 (fun _ _ _ => rfl) dX10_count_59 ?_
    exact hR _ _ _ _ (Option.some.inj hP) rfl dX10_count_62
  replace hP := ite_f hc2 hP
  by_cases hc3 : x1 = 1
  · replace hP := ite_t hc3 hP
    refine V_tableIn (tgt := 63) hX dX10_count_1 (by rw [hc3]; decide) (by rw [hc3]; decide) (by rw [hc3] <;> rfl) (by decide) ?_
    refine V_aload_n hX dX10_count_63 0 rfl ?_
    refine V_getF (j := 5) hX fk_X10_34 tb_0 (fun _ _ _ => rfl) dX10_count_64 ?_
    refine V_getF (j := 9) hX fk_X10_42 tb_5 (fun _ _ _ => rfl) dX10_count_67 ?_
    refine V_getI hX fk_X10_301 tb_9 (fun _ _ _ => rfl) dX10_count_70 ?_
    exact hR _ _ _ _ (Option.some.inj hP) rfl dX10_count_73
  replace hP := ite_f hc3 hP
  by_cases hc4 : x1 = 2
  · replace hP := ite_t hc4 hP
    refine V_tableIn (tgt := 74) hX dX10_count_1 (by rw [hc4]; decide) (by rw [hc4]; decide) (by rw [hc4] <;> rfl) (by decide) ?_
    refine V_aload_n hX dX10_count_74 0 rfl ?_
    refine V_getF (j := 23) hX fk_X10_58 tb_0 (fun _ _ _ => rfl) dX10_count_75 ?_
    refine V_getI hX fk_X10_148 tb_23 (fun _ _ _ => rfl) dX10_count_78 ?_
    exact hR _ _ _ _ (Option.some.inj hP) rfl dX10_count_81
  replace hP := ite_f hc4 hP
  by_cases hc5 : x1 = 3
  · replace hP := ite_t hc5 hP
    refine V_tableIn (tgt := 82) hX dX10_count_1 (by rw [hc5]; decide) (by rw [hc5]; decide) (by rw [hc5] <;> rfl) (by decide) ?_
    refine V_aload_n hX dX10_count_82 0 rfl ?_
    refine V_getF (j := 23) hX fk_X10_58 tb_0 (fun _ _ _ => rfl) dX10_count_83 ?_
    refine V_getI hX fk_X10_233 tb_23 (fun _ _ _ => rfl) dX10_count_86 ?_
    exact hR _ _ _ _ (Option.some.inj hP) rfl dX10_count_89
  replace hP := ite_f hc5 hP
  by_cases hc6 : x1 = 4
  · replace hP := ite_t hc6 hP
    refine V_tableIn (tgt := 90) hX dX10_count_1 (by rw [hc6]; decide) (by rw [hc6]; decide) (by rw [hc6] <;> rfl) (by decide) ?_
    refine V_aload_n hX dX10_count_90 0 rfl ?_
    refine V_getF (j := 23) hX fk_X10_58 tb_0 (fun _ _ _ => rfl) dX10_count_91 ?_
    refine V_getI hX fk_X10_357 tb_23 (fun _ _ _ => rfl) dX10_count_94 ?_
    exact hR _ _ _ _ (Option.some.inj hP) rfl dX10_count_97
  replace hP := ite_f hc6 hP
  by_cases hc7 : x1 = 5
  · replace hP := ite_t hc7 hP
    refine V_tableIn (tgt := 98) hX dX10_count_1 (by rw [hc7]; decide) (by rw [hc7]; decide) (by rw [hc7] <;> rfl) (by decide) ?_
    refine V_aload_n hX dX10_count_98 0 rfl ?_
    refine V_getF (j := 23) hX fk_X10_58 tb_0 (fun _ _ _ => rfl) dX10_count_99 ?_
    refine V_getI hX fk_X10_236 tb_23 (fun _ _ _ => rfl) dX10_count_102 ?_
    exact hR _ _ _ _ (Option.some.inj hP) rfl dX10_count_105
  replace hP := ite_f hc7 hP
  by_cases hc8 : x1 = 6
  · replace hP := ite_t hc8 hP
    refine V_tableIn (tgt := 106) hX dX10_count_1 (by rw [hc8]; decide) (by rw [hc8]; decide) (by rw [hc8] <;> rfl) (by decide) ?_
    refine V_aload_n hX dX10_count_106 0 rfl ?_
    refine V_getF (j := 23) hX fk_X10_58 tb_0 (fun _ _ _ => rfl) dX10_count_107 ?_
    refine V_getI hX fk_X10_260 tb_23 (fun _ _ _ => rfl) dX10_count_110 ?_
    exact hR _ _ _ _ (Option.some.inj hP) rfl dX10_count_113
  replace hP := ite_f hc8 hP
  by_cases hc9 : x1 = 7
  · replace hP := ite_t hc9 hP
    refine V_tableIn (tgt := 114) hX dX10_count_1 (by rw [hc9]; decide) (by rw [hc9]; decide) (by rw [hc9] <;> rfl) (by decide) ?_
    refine V_aload_n hX dX10_count_114 0 rfl ?_
    refine V_getF (j := 23) hX fk_X10_58 tb_0 (fun _ _ _ => rfl) dX10_count_115 ?_
    refine V_getI hX fk_X10_199 tb_23 (fun _ _ _ => rfl) dX10_count_118 ?_
    exact hR _ _ _ _ (Option.some.inj hP) rfl dX10_count_121
  replace hP := ite_f hc9 hP
  by_cases hc10 : x1 = 8
  · replace hP := ite_t hc10 hP
    refine V_tableIn (tgt := 122) hX dX10_count_1 (by rw [hc10]; decide) (by rw [hc10]; decide) (by rw [hc10] <;> rfl) (by decide) ?_
    refine V_aload_n hX dX10_count_122 0 rfl ?_
    refine V_getF (j := 23) hX fk_X10_58 tb_0 (fun _ _ _ => rfl) dX10_count_123 ?_
    refine V_getI hX fk_X10_250 tb_23 (fun _ _ _ => rfl) dX10_count_126 ?_
    exact hR _ _ _ _ (Option.some.inj hP) rfl dX10_count_129
  replace hP := ite_f hc10 hP
  refine V_tableOut (tgt := 130) hX dX10_count_1 (ts_out (fun k h1 h2 => by
      have hk : k = 0 ∨ k = 1 ∨ k = 2 ∨ k = 3 ∨ k = 4 ∨ k = 5 ∨ k = 6 ∨ k = 7 ∨ k = 8 := by omega
      rcases hk with rfl | rfl | rfl | rfl | rfl | rfl | rfl | rfl | rfl
      · exact fun e => hc2 (by rw [e]; rfl)
      · exact fun e => hc3 (by rw [e]; rfl)
      · exact fun e => hc4 (by rw [e]; rfl)
      · exact fun e => hc5 (by rw [e]; rfl)
      · exact fun e => hc6 (by rw [e]; rfl)
      · exact fun e => hc7 (by rw [e]; rfl)
      · exact fun e => hc8 (by rw [e]; rfl)
      · exact fun e => hc9 (by rw [e]; rfl)
      · exact fun e => hc10 (by rw [e]; rfl)
      )) (by decide) ?_
  refine V_aload_n hX dX10_count_130 0 rfl ?_
  refine V_iload_n hX dX10_count_131 1 rfl ?_
  obtain ⟨x12, w11, hcw11, hP⟩ := bnd_e hP
  refine V_callVi (As := [.int x1]) (rest := []) hX mk_X10_360 nk_X10_countFurther (fun l => c_X10_countFurther l S  hcw11) tb_0 rfl ⟨rfl, rfl, Nat.le_of_ble_eq_true rfl, Nat.le_of_ble_eq_true rfl⟩ rfl rfl (Nat.le_of_ble_eq_true rfl) dX10_count_132 ?_
  exact hR _ _ _ _ (Option.some.inj hP) rfl dX10_count_135
theorem c_X10_count (l : Launch) (S : Sx) {r : Int32 × Wd} {F : Nat} {w : Wd} {x1 : Int32}  (h : P_X10_count F w x1 = some r) : Met l yX10_count (wsg yX10_count cX10_count 2 (some .int)) rm_X10_count (PC S w [rf S 0, .int x1]) (QCi S r) 0 0 (Aw S) :=
  met_i (by decide) rfl (Nat.le_of_ble_eq_true rfl) ⟨rfl, rfl⟩ (fun X hX hR => s_X10_count  hX hR h)

-- MustNotStop.row(I)J
abbrev rm_X10_row : Room := { frames := 2, cells := 0, slots := 0, locals := 85 }
theorem nk_X10_row : MNk yX10_row RX10 1 := ⟨rfl, by decide, by decide, by decide +kernel⟩
def K_X10_row_15 (F : Nat) (x1 : Int32)  (w : Wd)  : Option (Option Int64 × Wd) := some (none, w)
set_option maxRecDepth 100000 in
set_option maxHeartbeats 4000000 in
theorem sK_X10_row_15 {X : Cx} {S : Sx} {r : Option Int64 × Wd} {F : Nat} {x1 : Int32}  {w : Wd}  (hX : Ok X S cX10_row RX10 2 rm_X10_row) (hR : HRxl X S cX10_row r)    (hP : K_X10_row_15 F x1  w  = some r) : V X S w 15 [] [] := by
  unfold K_X10_row_15 at hP
  exact hR.2 _ _ _ _ (Option.some.inj hP) dX10_row_15
def P_X10_row (F : Nat) (w : Wd) (x1 : Int32) : Option (Option Int64 × Wd) := (if x1 < 0 then K_X10_row_15 F x1  w  else (if x1 < (gI w 3 1) then bnd (P_X7_at F w x1) (fun x5 w4 => some (some x5, w4)) else K_X10_row_15 F x1  w ))
set_option maxRecDepth 100000 in
set_option maxHeartbeats 4000000 in
theorem s_X10_row {X : Cx} {S : Sx} {r : Option Int64 × Wd} {F : Nat} {w : Wd} {x1 : Int32}  (hX : Ok X S cX10_row RX10 2 rm_X10_row) (hR : HRxl X S cX10_row r) (hP : P_X10_row F w x1 = some r) : V X S w 0 [(0, rf S 0), (1, .int x1)] [] := by
  unfold P_X10_row at hP
  refine V_iload_n hX dX10_row_0 1 rfl ?_
  refine V_if_lt (tgt := 15) hX dX10_row_1 (by decide) (fun hc2 => ?_) (fun hc2 => ?_)
  · replace hP := ite_t hc2 hP
    refine V_sub (lv' := []) [] rfl ?_
    exact sK_X10_row_15 hX hR    hP
  · replace hP := ite_f hc2 hP
    refine V_iload_n hX dX10_row_4 1 rfl ?_
    refine V_aload_n hX dX10_row_5 0 rfl ?_
    refine V_getF (j := 3) hX fk_X10_19 tb_0 (fun _ _ _ => rfl) dX10_row_6 ?_
    refine V_getI hX fk_X10_364 tb_3 (fun _ _ _ => rfl) dX10_row_9 ?_
    refine V_icmp_lt (tgt := 23) hX dX10_row_12 (by decide) (fun hc3 => ?_) (fun hc3 => ?_)
    · replace hP := ite_t hc3 hP
      refine V_aload_n hX dX10_row_23 0 rfl ?_
      refine V_getF (j := 3) hX fk_X10_19 tb_0 (fun _ _ _ => rfl) dX10_row_24 ?_
      refine V_iload_n hX dX10_row_27 1 rfl ?_
      obtain ⟨x5, w4, hcw4, hP⟩ := bnd_e hP
      refine V_callVl (As := [.int x1]) (rest := []) hX mk_X10_365 nk_X7_at (fun l => c_X7_at l S  hcw4) tb_3 rfl ⟨rfl, rfl, Nat.le_of_ble_eq_true rfl, Nat.le_of_ble_eq_true rfl⟩ rfl rfl (Nat.le_of_ble_eq_true rfl) dX10_row_28 ?_
      exact hR.1 _ _ _ _ (Option.some.inj hP) dX10_row_31
    · replace hP := ite_f hc3 hP
      refine V_sub (lv' := []) [] rfl ?_
      exact sK_X10_row_15 hX hR    hP
