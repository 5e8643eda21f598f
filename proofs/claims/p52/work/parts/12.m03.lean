-- MustNotStop$Law.combine(III)I
abbrev rm_X2_combine : Room := { frames := 1, cells := 0, slots := 0, locals := 64 }
theorem nk_X2_combine : MNk yX2_combine RX2 3 := ⟨rfl, by decide, by decide, by decide +kernel⟩
def P_X2_combine (F : Nat) (w : Wd) (x1 : Int32) (x2 : Int32) (x3 : Int32) : Option (Int32 × Wd) := (if x1 = 42 then some (x2 * x3, w) else (if x1 = 43 then some (x2 + x3, w) else (if x1 = 45 then some (x2 - x3, w) else (if x1 = 47 then (if x3 = 0 then some (0, w) else gd (neZ x3) (some (x2 / x3, w))) else (if x1 = 60 then lt (if x3 ≤ x2 then 0 else 1 : Int32) (fun x12 => some (x12, w)) else (if x1 = 62 then lt (if x2 ≤ x3 then 0 else 1 : Int32) (fun x16 => some (x16, w)) else lt (if x2 = x3 then 1 else 0 : Int32) (fun x19 => some (x19, w))))))))
set_option maxRecDepth 100000 in
set_option maxHeartbeats 4000000 in
theorem s_X2_combine {X : Cx} {S : Sx} {r : Int32 × Wd} {F : Nat} {w : Wd} {x1 : Int32} {x2 : Int32} {x3 : Int32}  (hX : Ok X S cX2_combine RX2 3 rm_X2_combine) (hR : HRt X S cX2_combine .int r) (hP : P_X2_combine F w x1 x2 x3 = some r) : V X S w 0 [(0, .int x1), (1, .int x2), (2, .int x3)] [] := by
  unfold P_X2_combine at hP
  refine V_iload_n hX dX2_combine_0 0 rfl ?_
  by_cases hc4 : x1 = 42
  · replace hP := ite_t hc4 hP
    refine V_lookup (tgt := 68) hX dX2_combine_1 (by decide) (by rw [hc4] <;> rfl) (by decide) ?_
    refine V_iload_n hX dX2_combine_68 1 rfl ?_
    refine V_iload_n hX dX2_combine_69 2 rfl ?_
    refine V_imul hX dX2_combine_70 ?_
    exact hR _ _ _ _ (Option.some.inj hP) rfl dX2_combine_71
  replace hP := ite_f hc4 hP
  by_cases hc5 : x1 = 43
  · replace hP := ite_t hc5 hP
    refine V_lookup (tgt := 60) hX dX2_combine_1 (by decide) (by rw [hc5] <;> rfl) (by decide) ?_
    refine V_iload_n hX dX2_combine_60 1 rfl ?_
    refine V_iload_n hX dX2_combine_61 2 rfl ?_
    refine V_iadd hX dX2_combine_62 ?_
    exact hR _ _ _ _ (Option.some.inj hP) rfl dX2_combine_63
  replace hP := ite_f hc5 hP
  by_cases hc6 : x1 = 45
  · replace hP := ite_t hc6 hP
    refine V_lookup (tgt := 64) hX dX2_combine_1 (by decide) (by rw [hc6] <;> rfl) (by decide) ?_
    refine V_iload_n hX dX2_combine_64 1 rfl ?_
    refine V_iload_n hX dX2_combine_65 2 rfl ?_
    refine V_isub hX dX2_combine_66 ?_
    exact hR _ _ _ _ (Option.some.inj hP) rfl dX2_combine_67
  replace hP := ite_f hc6 hP
  by_cases hc7 : x1 = 47
  · replace hP := ite_t hc7 hP
    refine V_lookup (tgt := 72) hX dX2_combine_1 (by decide) (by rw [hc7] <;> rfl) (by decide) ?_
    refine V_iload_n hX dX2_combine_72 2 rfl ?_
    refine V_if_ne (tgt := 80) hX dX2_combine_73 (by decide) (fun hc8 => ?_) (fun hc8 => ?_)
    · replace hP := ite_f hc8 hP
      refine V_iload_n hX dX2_combine_80 1 rfl ?_
      refine V_iload_n hX dX2_combine_81 2 rfl ?_
      obtain ⟨hz9, hP⟩ := gd_e hP
      refine V_idiv hX dX2_combine_82 hz9 ?_
      exact hR _ _ _ _ (Option.some.inj hP) rfl dX2_combine_83
    · replace hP := ite_t hc8 hP
      refine V_iconst (v := 0) hX dX2_combine_76 (by decide) ?_
      refine V_goto (tgt := 83) hX dX2_combine_77 (by decide) ?_
      exact hR _ _ _ _ (Option.some.inj hP) rfl dX2_combine_83
  replace hP := ite_f hc7 hP
  by_cases hc10 : x1 = 60
  · replace hP := ite_t hc10 hP
    refine V_lookup (tgt := 84) hX dX2_combine_1 (by decide) (by rw [hc10] <;> rfl) (by decide) ?_
    refine V_iload_n hX dX2_combine_84 1 rfl ?_
    refine V_iload_n hX dX2_combine_85 2 rfl ?_
    have k13 : V X S w 94 [(0, .int x1), (1, .int x2), (2, .int x3)] [.int (if x3 ≤ x2 then 0 else 1)] := by
      refine V_topi (fun x12 ex12 => ?_)
      replace hP := lt_r ex12 hP
      exact hR _ _ _ _ (Option.some.inj hP) rfl dX2_combine_94
    refine V_icmp_ge (tgt := 93) hX dX2_combine_86 (by decide) (fun hc11 => ?_) (fun hc11 => ?_)
    · refine V_iconst (v := 0) hX dX2_combine_93 (by decide) ?_
      refine V_selT (c := x3 ≤ x2) (b := 1) hc11 ?_
      exact k13
    · refine V_iconst (v := 1) hX dX2_combine_89 (by decide) ?_
      refine V_goto (tgt := 94) hX dX2_combine_90 (by decide) ?_
      refine V_selF (c := x3 ≤ x2) (a := 0) hc11 ?_
      exact k13
  replace hP := ite_f hc10 hP
  by_cases hc14 : x1 = 62
  · replace hP := ite_t hc14 hP
    refine V_lookup (tgt := 95) hX dX2_combine_1 (by decide) (by rw [hc14] <;> rfl) (by decide) ?_
    refine V_iload_n hX dX2_combine_95 1 rfl ?_
    refine V_iload_n hX dX2_combine_96 2 rfl ?_
    have k17 : V X S w 105 [(0, .int x1), (1, .int x2), (2, .int x3)] [.int (if x2 ≤ x3 then 0 else 1)] := by
      refine V_topi (fun x16 ex16 => ?_)
      replace hP := lt_r ex16 hP
      exact hR _ _ _ _ (Option.some.inj hP) rfl dX2_combine_105
    refine V_icmp_le (tgt := 104) hX dX2_combine_97 (by decide) (fun hc15 => ?_) (fun hc15 => ?_)
    · refine V_iconst (v := 0) hX dX2_combine_104 (by decide) ?_
      refine V_selT (c := x2 ≤ x3) (b := 1) hc15 ?_
      exact k17
    · refine V_iconst (v := 1) hX dX2_combine_100 (by decide) ?_
      refine V_goto (tgt := 105) hX dX2_combine_101 (by decide) ?_
      refine V_selF (c := x2 ≤ x3) (a := 0) hc15 ?_
      exact k17
  replace hP := ite_f hc14 hP
  refine V_lookup (tgt := 106) hX dX2_combine_1 (by decide) (lk_out (by
      intro q hq
      simp only [List.mem_cons, List.not_mem_nil, or_false] at hq
      rcases hq with rfl | rfl | rfl | rfl | rfl | rfl
      · exact fun e => hc4 (i32_ext (e.trans rfl))
      · exact fun e => hc5 (i32_ext (e.trans rfl))
      · exact fun e => hc6 (i32_ext (e.trans rfl))
      · exact fun e => hc7 (i32_ext (e.trans rfl))
      · exact fun e => hc10 (i32_ext (e.trans rfl))
      · exact fun e => hc14 (i32_ext (e.trans rfl))
      )) (by decide) ?_
  refine V_iload_n hX dX2_combine_106 1 rfl ?_
  refine V_iload_n hX dX2_combine_107 2 rfl ?_
  have k20 : V X S w 116 [(0, .int x1), (1, .int x2), (2, .int x3)] [.int (if x2 = x3 then 1 else 0)] := by
    refine V_topi (fun x19 ex19 => ?_)
    replace hP := lt_r ex19 hP
    exact hR _ _ _ _ (Option.some.inj hP) rfl dX2_combine_116
  refine V_icmp_ne (tgt := 115) hX dX2_combine_108 (by decide) (fun hc18 => ?_) (fun hc18 => ?_)
  · refine V_iconst (v := 0) hX dX2_combine_115 (by decide) ?_
    refine V_selF (c := x2 = x3) (a := 1) hc18 ?_
    exact k20
  · refine V_iconst (v := 1) hX dX2_combine_111 (by decide) ?_
    refine V_goto (tgt := 116) hX dX2_combine_112 (by decide) ?_
    refine V_selT (c := x2 = x3) (b := 0) hc18 ?_
    exact k20
theorem c_X2_combine (l : Launch) (S : Sx) {r : Int32 × Wd} {F : Nat} {w : Wd} {x1 : Int32} {x2 : Int32} {x3 : Int32}  (h : P_X2_combine F w x1 x2 x3 = some r) : Met l yX2_combine (wsg yX2_combine cX2_combine 3 (some .int)) rm_X2_combine (PC S w [.int x1, .int x2, .int x3]) (QCi S r) 0 0 (Aw S) :=
  met_i (by decide) rfl (Nat.le_of_ble_eq_true rfl) ⟨rfl, rfl⟩ (fun X hX hR => s_X2_combine  hX hR h)

-- MustNotStop$Law.value(IIIIIII)I
abbrev rm_X2_value : Room := { frames := 2, cells := 0, slots := 0, locals := 86 }
theorem nk_X2_value : MNk yX2_value RX2 7 := ⟨rfl, by decide, by decide, by decide +kernel⟩
def K_X2_value_240 (F : Nat) (a1 : Nat) (x2 : Int32) (x3 : Int32) (x4 : Int32) (x5 : Int32) (x6 : Int32) (x7 : Int32) (x8 : Int32) (k252 : Wd → Option (Int32 × Wd)) (rc : Wd → Int32 → Int32 → Option (Int32 × Wd)) (w : Wd) (x44 : Int32) (x45 : Int32) : Option (Int32 × Wd) := lt (x45 + 1 : Int32) (fun x46 => lt (x44 + 1 : Int32) (fun x47 => rc w x46 x47))
set_option maxRecDepth 100000 in
set_option maxHeartbeats 4000000 in
theorem sK_X2_value_240 {X : Cx} {S : Sx} {r : Int32 × Wd} {F : Nat} {a1 : Nat} {x2 : Int32} {x3 : Int32} {x4 : Int32} {x5 : Int32} {x6 : Int32} {x7 : Int32} {x8 : Int32} {k252 : Wd → Option (Int32 × Wd)} {rc : Wd → Int32 → Int32 → Option (Int32 × Wd)} {w : Wd} {x44 : Int32} {x45 : Int32} (hX : Ok X S cX2_value RX2 13 rm_X2_value) (hR : HRt X S cX2_value .int r) (ha1 : isX2 a1 = true) (hk252 : ∀ (w : Wd), k252 w = some r → V X S w 252 [(0, rf S a1)] []) (hrc : ∀ (w : Wd) (x24 : Int32) (x25 : Int32) , rc w x24 x25 = some r → V X S w 82 [(0, rf S a1), (8, .int x24), (9, .int x25), (1, .int x2), (2, .int x3), (3, .int x4), (4, .int x5), (5, .int x6), (6, .int x7), (7, .int x8)] [])  (hP : K_X2_value_240 F a1 x2 x3 x4 x5 x6 x7 x8 k252 rc w x44 x45 = some r) : V X S w 240 [(0, rf S a1), (1, .int x2), (2, .int x3), (3, .int x4), (4, .int x5), (5, .int x6), (6, .int x7), (7, .int x8), (9, .int x44), (12, .int x45)] [] := by
  unfold K_X2_value_240 at hP
  refine V_iload hX dX2_value_240 9 rfl ?_
  refine V_iconst (v := 1) hX dX2_value_242 (by decide) ?_
  refine V_iadd hX dX2_value_243 ?_
  refine V_topi (fun x46 ex46 => ?_)
  replace hP := lt_r ex46 hP
  refine V_istore (lv' := [(8, .int x46), (0, rf S a1), (1, .int x2), (2, .int x3), (3, .int x4), (4, .int x5), (5, .int x6), (6, .int x7), (7, .int x8), (9, .int x44), (12, .int x45)]) hX dX2_value_244 (by decide) rfl ?_
  obtain ⟨x47, ex47⟩ : ∃ y : Int32, y = x44 + 1 := ⟨_, rfl⟩
  replace hP := lt_r ex47 hP
  refine V_iinc (v := x47) (lv' := [(9, .int x47), (8, .int x46), (0, rf S a1), (1, .int x2), (2, .int x3), (3, .int x4), (4, .int x5), (5, .int x6), (6, .int x7), (7, .int x8), (12, .int x45)]) hX dX2_value_246 (j := 9) rfl (by decide) (by rw [ex47]; rfl) rfl ?_
  refine V_goto (tgt := 82) hX dX2_value_249 (by decide) ?_
  refine V_sub (lv' := [(0, rf S a1), (8, .int x46), (9, .int x47), (1, .int x2), (2, .int x3), (3, .int x4), (4, .int x5), (5, .int x6), (6, .int x7), (7, .int x8)]) [2, 1, 0, 3, 4, 5, 6, 7, 8, 9] rfl ?_
  exact hrc _ _ _  hP
def L_X2_value_82 (F : Nat) (a1 : Nat) (x2 : Int32) (x3 : Int32) (x4 : Int32) (x5 : Int32) (x6 : Int32) (x7 : Int32) (x8 : Int32) (k252 : Wd → Option (Int32 × Wd)) : Nat → Wd → Int32 → Int32 → Option (Int32 × Wd)
  | 0, _, _, _ => none
  | n + 1, w, x24, x25 => (if (gI w a1 1) ≤ x25 then k252 w  else (if (40 : Int32) ≤ x25 then k252 w  else gd (inB x25 40) (lt (gI w (a1 + 1) x25.toNatClampNeg : Int32) (fun x29 => lt (if (1010 : Int32) ≤ x29 then if x29 = 1136 then 1 else 2 else 0 : Int32) (fun x32 => lt (x24 - x32 : Int32) (fun x33 => (if x33 < 0 then some (0, w) else (if (x33 + 1) < 41 then (if x32 = 0 then bnd (P_X2_named F w a1 x29) (fun x52 w51 => gd (inB x33 41) (lt (sI w51 (a1 + 3) x33.toNatClampNeg x52) (fun w54 => K_X2_value_240 F a1 x2 x3 x4 x5 x6 x7 x8 k252 ((L_X2_value_82 F a1 x2 x3 x4 x5 x6 x7 x8 k252 n)) w54 x25 x33))) else (if x32 = 1 then gd (inB x33 41) (gd (inB x33 41) (lt (sI w (a1 + 3) x33.toNatClampNeg (-(gI w (a1 + 3) x33.toNatClampNeg))) (fun w50 => K_X2_value_240 F a1 x2 x3 x4 x5 x6 x7 x8 k252 ((L_X2_value_82 F a1 x2 x3 x4 x5 x6 x7 x8 k252 n)) w50 x25 x33))) else gd (inB x33 41) (gd (inB (x33 + 1) 41) (bnd (P_X2_combine F w (x29 - 1010) (gI w (a1 + 3) x33.toNatClampNeg) (gI w (a1 + 3) (x33 + 1).toNatClampNeg)) (fun x41 w40 => gd (inB x33 41) (lt (sI w40 (a1 + 3) x33.toNatClampNeg x41) (fun w43 => K_X2_value_240 F a1 x2 x3 x4 x5 x6 x7 x8 k252 ((L_X2_value_82 F a1 x2 x3 x4 x5 x6 x7 x8 k252 n)) w43 x25 x33))))))) else some (0, w)))))))))
set_option maxRecDepth 100000 in
set_option maxHeartbeats 4000000 in
theorem sL_X2_value_82 {X : Cx} {S : Sx} {r : Int32 × Wd} {F : Nat} {a1 : Nat} {x2 : Int32} {x3 : Int32} {x4 : Int32} {x5 : Int32} {x6 : Int32} {x7 : Int32} {x8 : Int32} {k252 : Wd → Option (Int32 × Wd)} (hX : Ok X S cX2_value RX2 13 rm_X2_value) (hR : HRt X S cX2_value .int r) (ha1 : isX2 a1 = true) (hk252 : ∀ (w : Wd), k252 w = some r → V X S w 252 [(0, rf S a1)] []) : ∀ (n : Nat) (w : Wd) (x24 : Int32) (x25 : Int32) , L_X2_value_82 F a1 x2 x3 x4 x5 x6 x7 x8 k252 n w x24 x25 = some r → V X S w 82 [(0, rf S a1), (8, .int x24), (9, .int x25), (1, .int x2), (2, .int x3), (3, .int x4), (4, .int x5), (5, .int x6), (6, .int x7), (7, .int x8)] [] := by
  intro n
  induction n with
  | zero =>
    intro w x24 x25  hP
    exact nn hP
  | succ n ih =>
    intro w x24 x25  hP
    rw [L_X2_value_82] at hP
    refine V_iload hX dX2_value_82 2 rfl ?_
    refine V_aload_n hX dX2_value_84 0 rfl ?_
    refine V_getI hX fk_X2_15 (tb_X2 ha1) (fun _ _ _ => rfl) dX2_value_85 ?_
    refine V_icmp_ge (tgt := 252) hX dX2_value_88 (by decide) (fun hc26 => ?_) (fun hc26 => ?_)
    · replace hP := ite_t hc26 hP
      refine V_sub (lv' := [(0, rf S a1)]) [0] rfl ?_
      exact hk252 _   hP
    · replace hP := ite_f hc26 hP
      refine V_iload hX dX2_value_91 2 rfl ?_
      refine V_aload_n hX dX2_value_93 0 rfl ?_
      refine V_getF (j := a1 + 1) hX fk_X2_9 (tb_X2 ha1) (fun _ _ _ => rfl) dX2_value_94 ?_
      refine V_alenI (v := 40) hX (tb_X2_1 ha1) (by decide) dX2_value_97 ?_
      refine V_icmp_ge (tgt := 252) hX dX2_value_98 (by decide) (fun hc27 => ?_) (fun hc27 => ?_)
      · replace hP := ite_t hc27 hP
        refine V_sub (lv' := [(0, rf S a1)]) [0] rfl ?_
        exact hk252 _   hP
      · replace hP := ite_f hc27 hP
        refine V_aload_n hX dX2_value_101 0 rfl ?_
        refine V_getF (j := a1 + 1) hX fk_X2_9 (tb_X2 ha1) (fun _ _ _ => rfl) dX2_value_102 ?_
        refine V_iload hX dX2_value_105 2 rfl ?_
        obtain ⟨hi28, hP⟩ := gd_e hP
        refine V_iald hX (tb_X2_1 ha1) hi28 dX2_value_107 ?_
        refine V_topi (fun x29 ex29 => ?_)
        replace hP := lt_r ex29 hP
        refine V_istore (lv' := [(10, .int x29), (0, rf S a1), (8, .int x24), (9, .int x25), (1, .int x2), (2, .int x3), (3, .int x4), (4, .int x5), (5, .int x6), (6, .int x7), (7, .int x8)]) hX dX2_value_108 (by decide) rfl ?_
        refine V_iload hX dX2_value_110 0 rfl ?_
        refine V_sipush (v := 1010) hX dX2_value_112 (by decide) ?_
        have k55 : V X S w 135 [(10, .int x29), (0, rf S a1), (8, .int x24), (9, .int x25), (1, .int x2), (2, .int x3), (3, .int x4), (4, .int x5), (5, .int x6), (6, .int x7), (7, .int x8)] [.int (if (1010 : Int32) ≤ x29 then if x29 = 1136 then 1 else 2 else 0)] := by
          refine V_topi (fun x32 ex32 => ?_)
          replace hP := lt_r ex32 hP
          refine V_istore (lv' := [(11, .int x32), (10, .int x29), (0, rf S a1), (8, .int x24), (9, .int x25), (1, .int x2), (2, .int x3), (3, .int x4), (4, .int x5), (5, .int x6), (6, .int x7), (7, .int x8)]) hX dX2_value_135 (by decide) rfl ?_
          refine V_iload hX dX2_value_137 3 rfl ?_
          refine V_iload hX dX2_value_139 0 rfl ?_
          refine V_isub hX dX2_value_141 ?_
          refine V_topi (fun x33 ex33 => ?_)
          replace hP := lt_r ex33 hP
          refine V_istore (lv' := [(12, .int x33), (11, .int x32), (10, .int x29), (0, rf S a1), (8, .int x24), (9, .int x25), (1, .int x2), (2, .int x3), (3, .int x4), (4, .int x5), (5, .int x6), (6, .int x7), (7, .int x8)]) hX dX2_value_142 (by decide) rfl ?_
          refine V_iload hX dX2_value_144 0 rfl ?_
          refine V_if_lt (tgt := 161) hX dX2_value_146 (by decide) (fun hc34 => ?_) (fun hc34 => ?_)
          · replace hP := ite_t hc34 hP
            refine V_iconst (v := 0) hX dX2_value_161 (by decide) ?_
            exact hR _ _ _ _ (Option.some.inj hP) rfl dX2_value_162
          · replace hP := ite_f hc34 hP
            refine V_iload hX dX2_value_149 0 rfl ?_
            refine V_iconst (v := 1) hX dX2_value_151 (by decide) ?_
            refine V_iadd hX dX2_value_152 ?_
            refine V_aload_n hX dX2_value_153 3 rfl ?_
            refine V_getF (j := a1 + 3) hX fk_X2_22 (tb_X2 ha1) (fun _ _ _ => rfl) dX2_value_154 ?_
            refine V_alenI (v := 41) hX (tb_X2_3 ha1) (by decide) dX2_value_157 ?_
            refine V_icmp_lt (tgt := 163) hX dX2_value_158 (by decide) (fun hc35 => ?_) (fun hc35 => ?_)
            · replace hP := ite_t hc35 hP
              refine V_iload hX dX2_value_163 1 rfl ?_
              refine V_if_ne (tgt := 184) hX dX2_value_165 (by decide) (fun hc36 => ?_) (fun hc36 => ?_)
              · replace hP := ite_f hc36 hP
                refine V_iload hX dX2_value_184 1 rfl ?_
                refine V_iconst (v := 1) hX dX2_value_186 (by decide) ?_
                refine V_icmp_ne (tgt := 208) hX dX2_value_187 (by decide) (fun hc37 => ?_) (fun hc37 => ?_)
                · replace hP := ite_f hc37 hP
                  refine V_aload_n hX dX2_value_208 3 rfl ?_
                  refine V_getF (j := a1 + 3) hX fk_X2_22 (tb_X2 ha1) (fun _ _ _ => rfl) dX2_value_209 ?_
                  refine V_iload hX dX2_value_212 0 rfl ?_
                  refine V_iload hX dX2_value_214 2 rfl ?_
                  refine V_sipush (v := 1010) hX dX2_value_216 (by decide) ?_
                  refine V_isub hX dX2_value_219 ?_
                  refine V_aload_n hX dX2_value_220 3 rfl ?_
                  refine V_getF (j := a1 + 3) hX fk_X2_22 (tb_X2 ha1) (fun _ _ _ => rfl) dX2_value_221 ?_
                  refine V_iload hX dX2_value_224 0 rfl ?_
                  obtain ⟨hi38, hP⟩ := gd_e hP
                  refine V_iald hX (tb_X2_3 ha1) hi38 dX2_value_226 ?_
                  refine V_aload_n hX dX2_value_227 3 rfl ?_
                  refine V_getF (j := a1 + 3) hX fk_X2_22 (tb_X2 ha1) (fun _ _ _ => rfl) dX2_value_228 ?_
                  refine V_iload hX dX2_value_231 0 rfl ?_
                  refine V_iconst (v := 1) hX dX2_value_233 (by decide) ?_
                  refine V_iadd hX dX2_value_234 ?_
                  obtain ⟨hi39, hP⟩ := gd_e hP
                  refine V_iald hX (tb_X2_3 ha1) hi39 dX2_value_235 ?_
                  obtain ⟨x41, w40, hcw40, hP⟩ := bnd_e hP
                  refine V_callSi (As := [.int (x29 - 1010), .int (gI w (a1 + 3) x33.toNatClampNeg), .int (gI w (a1 + 3) (x33 + 1).toNatClampNeg)]) (rest := [.int x33, rf S (a1 + 3)]) hX mk_X2_103 nk_X2_combine (fun l => c_X2_combine l S  hcw40) ⟨rfl, rfl, Nat.le_of_ble_eq_true rfl, Nat.le_of_ble_eq_true rfl⟩ rfl rfl (Nat.le_of_ble_eq_true rfl) dX2_value_236 ?_
                  obtain ⟨hi42, hP⟩ := gd_e hP
                  refine V_iast hX (tb_X2_3 ha1) hi42 dX2_value_239 (fun w43 ew43 => ?_)
                  replace hP := lt_r ew43 hP
                  refine V_sub (lv' := [(0, rf S a1), (1, .int x2), (2, .int x3), (3, .int x4), (4, .int x5), (5, .int x6), (6, .int x7), (7, .int x8), (9, .int x25), (12, .int x33)]) [3, 6, 7, 8, 9, 10, 11, 12, 5, 0] rfl ?_
                  exact sK_X2_value_240 hX hR ha1 hk252 ih  hP
                · replace hP := ite_t hc37 hP
                  refine V_aload_n hX dX2_value_190 3 rfl ?_
                  refine V_getF (j := a1 + 3) hX fk_X2_22 (tb_X2 ha1) (fun _ _ _ => rfl) dX2_value_191 ?_
                  refine V_iload hX dX2_value_194 0 rfl ?_
                  refine V_aload_n hX dX2_value_196 3 rfl ?_
                  refine V_getF (j := a1 + 3) hX fk_X2_22 (tb_X2 ha1) (fun _ _ _ => rfl) dX2_value_197 ?_
                  refine V_iload hX dX2_value_200 0 rfl ?_
                  obtain ⟨hi48, hP⟩ := gd_e hP
                  refine V_iald hX (tb_X2_3 ha1) hi48 dX2_value_202 ?_
                  refine V_ineg hX dX2_value_203 ?_
                  obtain ⟨hi49, hP⟩ := gd_e hP
                  refine V_iast hX (tb_X2_3 ha1) hi49 dX2_value_204 (fun w50 ew50 => ?_)
                  replace hP := lt_r ew50 hP
                  refine V_goto (tgt := 240) hX dX2_value_205 (by decide) ?_
                  refine V_sub (lv' := [(0, rf S a1), (1, .int x2), (2, .int x3), (3, .int x4), (4, .int x5), (5, .int x6), (6, .int x7), (7, .int x8), (9, .int x25), (12, .int x33)]) [3, 6, 7, 8, 9, 10, 11, 12, 5, 0] rfl ?_
                  exact sK_X2_value_240 hX hR ha1 hk252 ih  hP
              · replace hP := ite_t hc36 hP
                refine V_aload_n hX dX2_value_168 3 rfl ?_
                refine V_getF (j := a1 + 3) hX fk_X2_22 (tb_X2 ha1) (fun _ _ _ => rfl) dX2_value_169 ?_
                refine V_iload hX dX2_value_172 0 rfl ?_
                refine V_aload_n hX dX2_value_174 3 rfl ?_
                refine V_iload hX dX2_value_175 2 rfl ?_
                obtain ⟨x52, w51, hcw51, hP⟩ := bnd_e hP
                refine V_callVi (As := [.int x29]) (rest := [.int x33, rf S (a1 + 3)]) hX mk_X2_100 nk_X2_named (fun l => c_X2_named l S ha1 hcw51) (tb_X2 ha1) rfl ⟨rfl, rfl, Nat.le_of_ble_eq_true rfl, Nat.le_of_ble_eq_true rfl⟩ rfl rfl (Nat.le_of_ble_eq_true rfl) dX2_value_177 ?_
                obtain ⟨hi53, hP⟩ := gd_e hP
                refine V_iast hX (tb_X2_3 ha1) hi53 dX2_value_180 (fun w54 ew54 => ?_)
                replace hP := lt_r ew54 hP
                refine V_goto (tgt := 240) hX dX2_value_181 (by decide) ?_
                refine V_sub (lv' := [(0, rf S a1), (1, .int x2), (2, .int x3), (3, .int x4), (4, .int x5), (5, .int x6), (6, .int x7), (7, .int x8), (9, .int x25), (12, .int x33)]) [3, 6, 7, 8, 9, 10, 11, 12, 5, 0] rfl ?_
                exact sK_X2_value_240 hX hR ha1 hk252 ih  hP
            · replace hP := ite_f hc35 hP
              refine V_iconst (v := 0) hX dX2_value_161 (by decide) ?_
              exact hR _ _ _ _ (Option.some.inj hP) rfl dX2_value_162
        refine V_icmp_ge (tgt := 122) hX dX2_value_115 (by decide) (fun hc31 => ?_) (fun hc31 => ?_)
        · refine V_iload hX dX2_value_122 0 rfl ?_
          refine V_sipush (v := 1136) hX dX2_value_124 (by decide) ?_
          refine V_icmp_ne (tgt := 134) hX dX2_value_127 (by decide) (fun hc30 => ?_) (fun hc30 => ?_)
          · refine V_iconst (v := 2) hX dX2_value_134 (by decide) ?_
            refine V_selF (c := x29 = 1136) (a := 1) hc30 ?_
            refine V_selT (c := (1010 : Int32) ≤ x29) (b := 0) hc31 ?_
            exact k55
          · refine V_iconst (v := 1) hX dX2_value_130 (by decide) ?_
            refine V_goto (tgt := 135) hX dX2_value_131 (by decide) ?_
            refine V_selT (c := x29 = 1136) (b := 2) hc30 ?_
            refine V_selT (c := (1010 : Int32) ≤ x29) (b := 0) hc31 ?_
            exact k55
        · refine V_iconst (v := 0) hX dX2_value_118 (by decide) ?_
          refine V_goto (tgt := 135) hX dX2_value_119 (by decide) ?_
          refine V_selF (c := (1010 : Int32) ≤ x29) (a := if x29 = 1136 then 1 else 2) hc31 ?_
          exact k55
def P_X2_value (F : Nat) (w : Wd) (a1 : Nat) (x2 : Int32) (x3 : Int32) (x4 : Int32) (x5 : Int32) (x6 : Int32) (x7 : Int32) (x8 : Int32) : Option (Int32 × Wd) := (if (gI w a1 1) = 0 then some ((((x2 * 10) - x3) - (x5 * 3)) - x6, w) else gd (inB 0 7) (lt (sI w (a1 + 2) 0 x2) (fun w11 => gd (inB 1 7) (lt (sI w11 (a1 + 2) 1 x3) (fun w13 => gd (inB 2 7) (lt (sI w13 (a1 + 2) 2 x4) (fun w15 => gd (inB 3 7) (lt (sI w15 (a1 + 2) 3 x5) (fun w17 => gd (inB 4 7) (lt (sI w17 (a1 + 2) 4 x6) (fun w19 => gd (inB 5 7) (lt (sI w19 (a1 + 2) 5 x7) (fun w21 => gd (inB 6 7) (lt (sI w21 (a1 + 2) 6 x8) (fun w23 => L_X2_value_82 F a1 x2 x3 x4 x5 x6 x7 x8 (fun w  => gd (inB 0 41) (some (gI w (a1 + 3) 0, w))) F w23 0 0)))))))))))))))
set_option maxRecDepth 100000 in
set_option maxHeartbeats 4000000 in
theorem s_X2_value {X : Cx} {S : Sx} {r : Int32 × Wd} {F : Nat} {w : Wd} {a1 : Nat} {x2 : Int32} {x3 : Int32} {x4 : Int32} {x5 : Int32} {x6 : Int32} {x7 : Int32} {x8 : Int32} (ha1 : isX2 a1 = true) (hX : Ok X S cX2_value RX2 13 rm_X2_value) (hR : HRt X S cX2_value .int r) (hP : P_X2_value F w a1 x2 x3 x4 x5 x6 x7 x8 = some r) : V X S w 0 [(0, rf S a1), (1, .int x2), (2, .int x3), (3, .int x4), (4, .int x5), (5, .int x6), (6, .int x7), (7, .int x8)] [] := by
  unfold P_X2_value at hP
  refine V_aload_n hX dX2_value_0 0 rfl ?_
  refine V_getI hX fk_X2_15 (tb_X2 ha1) (fun _ _ _ => rfl) dX2_value_1 ?_
  refine V_if_ne (tgt := 22) hX dX2_value_4 (by decide) (fun hc9 => ?_) (fun hc9 => ?_)
  · replace hP := ite_f hc9 hP
    refine V_aload_n hX dX2_value_22 0 rfl ?_
    refine V_getF (j := a1 + 2) hX fk_X2_19 (tb_X2 ha1) (fun _ _ _ => rfl) dX2_value_23 ?_
    refine V_iconst (v := 0) hX dX2_value_26 (by decide) ?_
    refine V_iload_n hX dX2_value_27 1 rfl ?_
    obtain ⟨hi10, hP⟩ := gd_e hP
    refine V_iast hX (tb_X2_2 ha1) hi10 dX2_value_28 (fun w11 ew11 => ?_)
    replace hP := lt_r ew11 hP
    refine V_aload_n hX dX2_value_29 0 rfl ?_
    refine V_getF (j := a1 + 2) hX fk_X2_19 (tb_X2 ha1) (fun _ _ _ => rfl) dX2_value_30 ?_
    refine V_iconst (v := 1) hX dX2_value_33 (by decide) ?_
    refine V_iload_n hX dX2_value_34 2 rfl ?_
    obtain ⟨hi12, hP⟩ := gd_e hP
    refine V_iast hX (tb_X2_2 ha1) hi12 dX2_value_35 (fun w13 ew13 => ?_)
    replace hP := lt_r ew13 hP
    refine V_aload_n hX dX2_value_36 0 rfl ?_
    refine V_getF (j := a1 + 2) hX fk_X2_19 (tb_X2 ha1) (fun _ _ _ => rfl) dX2_value_37 ?_
    refine V_iconst (v := 2) hX dX2_value_40 (by decide) ?_
    refine V_iload_n hX dX2_value_41 3 rfl ?_
    obtain ⟨hi14, hP⟩ := gd_e hP
    refine V_iast hX (tb_X2_2 ha1) hi14 dX2_value_42 (fun w15 ew15 => ?_)
    replace hP := lt_r ew15 hP
    refine V_aload_n hX dX2_value_43 0 rfl ?_
    refine V_getF (j := a1 + 2) hX fk_X2_19 (tb_X2 ha1) (fun _ _ _ => rfl) dX2_value_44 ?_
    refine V_iconst (v := 3) hX dX2_value_47 (by decide) ?_
    refine V_iload hX dX2_value_48 4 rfl ?_
    obtain ⟨hi16, hP⟩ := gd_e hP
    refine V_iast hX (tb_X2_2 ha1) hi16 dX2_value_50 (fun w17 ew17 => ?_)
    replace hP := lt_r ew17 hP
    refine V_aload_n hX dX2_value_51 0 rfl ?_
    refine V_getF (j := a1 + 2) hX fk_X2_19 (tb_X2 ha1) (fun _ _ _ => rfl) dX2_value_52 ?_
    refine V_iconst (v := 4) hX dX2_value_55 (by decide) ?_
    refine V_iload hX dX2_value_56 5 rfl ?_
    obtain ⟨hi18, hP⟩ := gd_e hP
    refine V_iast hX (tb_X2_2 ha1) hi18 dX2_value_58 (fun w19 ew19 => ?_)
    replace hP := lt_r ew19 hP
    refine V_aload_n hX dX2_value_59 0 rfl ?_
    refine V_getF (j := a1 + 2) hX fk_X2_19 (tb_X2 ha1) (fun _ _ _ => rfl) dX2_value_60 ?_
    refine V_iconst (v := 5) hX dX2_value_63 (by decide) ?_
    refine V_iload hX dX2_value_64 6 rfl ?_
    obtain ⟨hi20, hP⟩ := gd_e hP
    refine V_iast hX (tb_X2_2 ha1) hi20 dX2_value_66 (fun w21 ew21 => ?_)
    replace hP := lt_r ew21 hP
    refine V_aload_n hX dX2_value_67 0 rfl ?_
    refine V_getF (j := a1 + 2) hX fk_X2_19 (tb_X2 ha1) (fun _ _ _ => rfl) dX2_value_68 ?_
    refine V_bipush (v := 6) hX dX2_value_71 (by decide) ?_
    refine V_iload hX dX2_value_73 7 rfl ?_
    obtain ⟨hi22, hP⟩ := gd_e hP
    refine V_iast hX (tb_X2_2 ha1) hi22 dX2_value_75 (fun w23 ew23 => ?_)
    replace hP := lt_r ew23 hP
    refine V_iconst (v := 0) hX dX2_value_76 (by decide) ?_
    refine V_istore (lv' := [(8, .int 0), (0, rf S a1), (1, .int x2), (2, .int x3), (3, .int x4), (4, .int x5), (5, .int x6), (6, .int x7), (7, .int x8)]) hX dX2_value_77 (by decide) rfl ?_
    refine V_iconst (v := 0) hX dX2_value_79 (by decide) ?_
    refine V_istore (lv' := [(9, .int 0), (8, .int 0), (0, rf S a1), (1, .int x2), (2, .int x3), (3, .int x4), (4, .int x5), (5, .int x6), (6, .int x7), (7, .int x8)]) hX dX2_value_80 (by decide) rfl ?_
    refine V_sub (lv' := [(0, rf S a1), (8, .int 0), (9, .int 0), (1, .int x2), (2, .int x3), (3, .int x4), (4, .int x5), (5, .int x6), (6, .int x7), (7, .int x8)]) [2, 1, 0, 3, 4, 5, 6, 7, 8, 9] rfl ?_
    have k57 : ∀ (w : Wd)  , (gd (inB 0 41) (some (gI w (a1 + 3) 0, w))) = some r → V X S w 252 [(0, rf S a1)] [] := by
      intro w   hP
      refine V_aload_n hX dX2_value_252 0 rfl ?_
      refine V_getF (j := a1 + 3) hX fk_X2_22 (tb_X2 ha1) (fun _ _ _ => rfl) dX2_value_253 ?_
      refine V_iconst (v := 0) hX dX2_value_256 (by decide) ?_
      obtain ⟨hi56, hP⟩ := gd_e hP
      refine V_iald hX (tb_X2_3 ha1) hi56 dX2_value_257 ?_
      exact hR _ _ _ _ (Option.some.inj hP) rfl dX2_value_258
    exact sL_X2_value_82 hX hR ha1 k57 F _ _ _  hP
  · replace hP := ite_t hc9 hP
    refine V_iload_n hX dX2_value_7 1 rfl ?_
    refine V_bipush (v := 10) hX dX2_value_8 (by decide) ?_
    refine V_imul hX dX2_value_10 ?_
    refine V_iload_n hX dX2_value_11 2 rfl ?_
    refine V_isub hX dX2_value_12 ?_
    refine V_iload hX dX2_value_13 4 rfl ?_
    refine V_iconst (v := 3) hX dX2_value_15 (by decide) ?_
    refine V_imul hX dX2_value_16 ?_
    refine V_isub hX dX2_value_17 ?_
    refine V_iload hX dX2_value_18 5 rfl ?_
    refine V_isub hX dX2_value_20 ?_
    exact hR _ _ _ _ (Option.some.inj hP) rfl dX2_value_21
theorem c_X2_value (l : Launch) (S : Sx) {r : Int32 × Wd} {F : Nat} {w : Wd} {a1 : Nat} {x2 : Int32} {x3 : Int32} {x4 : Int32} {x5 : Int32} {x6 : Int32} {x7 : Int32} {x8 : Int32} (ha1 : isX2 a1 = true) (h : P_X2_value F w a1 x2 x3 x4 x5 x6 x7 x8 = some r) : Met l yX2_value (wsg yX2_value cX2_value 13 (some .int)) rm_X2_value (PC S w [rf S a1, .int x2, .int x3, .int x4, .int x5, .int x6, .int x7, .int x8]) (QCi S r) 0 0 (Aw S) :=
  met_i (by decide) rfl (Nat.le_of_ble_eq_true rfl) ⟨rfl, rfl⟩ (fun X hX hR => s_X2_value ha1 hX hR h)

-- MustNotStop$Past.clear()V
abbrev rm_X4_clear : Room := { frames := 1, cells := 0, slots := 0, locals := 64 }
theorem nk_X4_clear : MNk yX4_clear RX4 0 := ⟨rfl, by decide, by decide, by decide +kernel⟩
def P_X4_clear (F : Nat) (w : Wd)  : Option (Wd) := lt (sI w 29 2 0) (fun w1 => some w1)
set_option maxRecDepth 100000 in
set_option maxHeartbeats 4000000 in
theorem s_X4_clear {X : Cx} {S : Sx} {r : Wd} {F : Nat} {w : Wd}   (hX : Ok X S cX4_clear RX4 1 rm_X4_clear) (hR : HRv X S cX4_clear r) (hP : P_X4_clear F w  = some r) : V X S w 0 [(0, rf S 29)] [] := by
  unfold P_X4_clear at hP
  refine V_aload_n hX dX4_clear_0 0 rfl ?_
  refine V_iconst (v := 0) hX dX4_clear_1 (by decide) ?_
  refine V_putI hX fw_X4_21 tb_29 (fun _ _ _ => ⟨Nat.le_of_ble_eq_true rfl, rfl⟩) dX4_clear_2 (fun w1 ew1 => ?_)
  replace hP := lt_r ew1 hP
  exact hR _ _ _ (Option.some.inj hP) dX4_clear_5
theorem c_X4_clear (l : Launch) (S : Sx) {r : Wd} {F : Nat} {w : Wd}   (h : P_X4_clear F w  = some r) : Met l yX4_clear (wsg yX4_clear cX4_clear 1 none) rm_X4_clear (PC S w [rf S 29]) (QCv S r) 0 0 (Aw S) :=
  met_v (by decide) rfl (Nat.le_of_ble_eq_true rfl) ⟨rfl, rfl⟩ (fun X hX hR => s_X4_clear  hX hR h)

-- MustNotStop$Past.push(LMustNotStop$Bell;)V
abbrev rm_X4_push : Room := { frames := 2, cells := 0, slots := 0, locals := 86 }
theorem nk_X4_push : MNk yX4_push RX4 1 := ⟨rfl, by decide, by decide, by decide +kernel⟩
def P_X4_push (F : Nat) (w : Wd) (a1 : Nat) : Option (Wd) := (if (gI w 29 1) < 0 then some w else (if (15 : Int32) ≤ (gI w 29 1) then some w else gd (inB (gI w 29 1) 15) (lt (31 + 2 * (gI w 29 1).toNatClampNeg) (fun a5 => gd (isX1 a5) (bnv (P_X1_copy F w a5 a1) (fun w6 => lt (sI w6 29 1 (iremI ((gI w6 29 1) + 1) 15)) (fun w8 => lt (sI w8 29 2 (minI 15 ((gI w8 29 2) + 1))) (fun w9 => some w9))))))))
set_option maxRecDepth 100000 in
set_option maxHeartbeats 4000000 in
theorem s_X4_push {X : Cx} {S : Sx} {r : Wd} {F : Nat} {w : Wd} {a1 : Nat} (ha1 : isX1 a1 = true) (hX : Ok X S cX4_push RX4 2 rm_X4_push) (hR : HRv X S cX4_push r) (hP : P_X4_push F w a1 = some r) : V X S w 0 [(0, rf S 29), (1, rf S a1)] [] := by
  unfold P_X4_push at hP
  refine V_aload_n hX dX4_push_0 0 rfl ?_
  refine V_getI hX fk_X4_17 tb_29 (fun _ _ _ => rfl) dX4_push_1 ?_
  refine V_if_lt (tgt := 60) hX dX4_push_4 (by decide) (fun hc2 => ?_) (fun hc2 => ?_)
  · replace hP := ite_t hc2 hP
    exact hR _ _ _ (Option.some.inj hP) dX4_push_60
  · replace hP := ite_f hc2 hP
    refine V_aload_n hX dX4_push_7 0 rfl ?_
    refine V_getI hX fk_X4_17 tb_29 (fun _ _ _ => rfl) dX4_push_8 ?_
    refine V_aload_n hX dX4_push_11 0 rfl ?_
    refine V_getF (j := 30) hX fk_X4_13 tb_29 (fun _ _ _ => rfl) dX4_push_12 ?_
    refine V_alenB (v := 15) hX tb_30 (by decide) dX4_push_15 ?_
    refine V_icmp_ge (tgt := 60) hX dX4_push_16 (by decide) (fun hc3 => ?_) (fun hc3 => ?_)
    · replace hP := ite_t hc3 hP
      exact hR _ _ _ (Option.some.inj hP) dX4_push_60
    · replace hP := ite_f hc3 hP
      refine V_aload_n hX dX4_push_19 0 rfl ?_
      refine V_getF (j := 30) hX fk_X4_13 tb_29 (fun _ _ _ => rfl) dX4_push_20 ?_
      refine V_aload_n hX dX4_push_23 0 rfl ?_
      refine V_getI hX fk_X4_17 tb_29 (fun _ _ _ => rfl) dX4_push_24 ?_
      obtain ⟨hi4, hP⟩ := gd_e hP
      refine V_aald hX tb_30 hi4 dX4_push_27 ?_
      refine V_topr (fun a5 ea5 => ?_)
      replace hP := lt_r ea5 hP
      obtain ⟨ha5, hP⟩ := gd_e hP
      refine V_aload_n hX dX4_push_28 1 rfl ?_
      obtain ⟨w6, hcw6, hP⟩ := bnv_e hP
      refine V_callVv (As := [rf S a1]) (rest := []) hX mk_X4_25 nk_X1_copy (fun l => c_X1_copy l S ha5 ha1 hcw6) (tb_X1 ha5) rfl ⟨rfl, rfl, Nat.le_of_ble_eq_true rfl, Nat.le_of_ble_eq_true rfl⟩ rfl rfl (Nat.le_of_ble_eq_true rfl) dX4_push_29 ?_
      refine V_aload_n hX dX4_push_32 0 rfl ?_
      refine V_aload_n hX dX4_push_33 0 rfl ?_
      refine V_getI hX fk_X4_17 tb_29 (fun _ _ _ => rfl) dX4_push_34 ?_
      refine V_iconst (v := 1) hX dX4_push_37 (by decide) ?_
      refine V_iadd hX dX4_push_38 ?_
      refine V_bipush (v := 15) hX dX4_push_39 (by decide) ?_
      refine V_irem hX dX4_push_41 (by decide) ?_
      refine V_putI hX fw_X4_17 tb_29 (fun _ _ _ => ⟨Nat.le_of_ble_eq_true rfl, rfl⟩) dX4_push_42 (fun w8 ew8 => ?_)
      replace hP := lt_r ew8 hP
      refine V_aload_n hX dX4_push_45 0 rfl ?_
      refine V_bipush (v := 15) hX dX4_push_46 (by decide) ?_
      refine V_aload_n hX dX4_push_48 0 rfl ?_
      refine V_getI hX fk_X4_21 tb_29 (fun _ _ _ => rfl) dX4_push_49 ?_
      refine V_iconst (v := 1) hX dX4_push_52 (by decide) ?_
      refine V_iadd hX dX4_push_53 ?_
      refine V_min hX mk_X4_29 ⟨Nat.le_of_ble_eq_true rfl, Nat.le_of_ble_eq_true rfl⟩ dX4_push_54 ?_
      refine V_putI hX fw_X4_21 tb_29 (fun _ _ _ => ⟨Nat.le_of_ble_eq_true rfl, rfl⟩) dX4_push_57 (fun w9 ew9 => ?_)
      replace hP := lt_r ew9 hP
      exact hR _ _ _ (Option.some.inj hP) dX4_push_60
theorem c_X4_push (l : Launch) (S : Sx) {r : Wd} {F : Nat} {w : Wd} {a1 : Nat} (ha1 : isX1 a1 = true) (h : P_X4_push F w a1 = some r) : Met l yX4_push (wsg yX4_push cX4_push 2 none) rm_X4_push (PC S w [rf S 29, rf S a1]) (QCv S r) 0 0 (Aw S) :=
  met_v (by decide) rfl (Nat.le_of_ble_eq_true rfl) ⟨rfl, rfl⟩ (fun X hX hR => s_X4_push ha1 hX hR h)

-- MustNotStop$Past.pop(LMustNotStop$Bell;)I
abbrev rm_X4_pop : Room := { frames := 2, cells := 0, slots := 0, locals := 86 }
theorem nk_X4_pop : MNk yX4_pop RX4 1 := ⟨rfl, by decide, by decide, by decide +kernel⟩
def P_X4_pop (F : Nat) (w : Wd) (a1 : Nat) : Option (Int32 × Wd) := lt (iremI (((gI w 29 1) + 15) - 1) 15 : Int32) (fun x3 => (if (gI w 29 2) ≤ 0 then some ((-1), w) else (if x3 < 0 then some ((-1), w) else (if x3 < 15 then gd (inB x3 15) (lt (31 + 2 * x3.toNatClampNeg) (fun a8 => gd (isX1 a8) (bnv (P_X1_copy F w a1 a8) (fun w9 => lt (sI w9 29 1 x3) (fun w10 => lt (sI w10 29 2 ((gI w10 29 2) - 1)) (fun w11 => some (gI w11 29 2, w11))))))) else some ((-1), w)))))
set_option maxRecDepth 100000 in
set_option maxHeartbeats 4000000 in
theorem s_X4_pop {X : Cx} {S : Sx} {r : Int32 × Wd} {F : Nat} {w : Wd} {a1 : Nat} (ha1 : isX1 a1 = true) (hX : Ok X S cX4_pop RX4 3 rm_X4_pop) (hR : HRt X S cX4_pop .int r) (hP : P_X4_pop F w a1 = some r) : V X S w 0 [(0, rf S 29), (1, rf S a1)] [] := by
  unfold P_X4_pop at hP
  refine V_aload_n hX dX4_pop_0 0 rfl ?_
  refine V_getI hX fk_X4_17 tb_29 (fun _ _ _ => rfl) dX4_pop_1 ?_
  refine V_bipush (v := 15) hX dX4_pop_4 (by decide) ?_
  refine V_iadd hX dX4_pop_6 ?_
  refine V_iconst (v := 1) hX dX4_pop_7 (by decide) ?_
  refine V_isub hX dX4_pop_8 ?_
  refine V_bipush (v := 15) hX dX4_pop_9 (by decide) ?_
  refine V_irem hX dX4_pop_11 (by decide) ?_
  refine V_topi (fun x3 ex3 => ?_)
  replace hP := lt_r ex3 hP
  refine V_istore_n (lv' := [(2, .int x3), (0, rf S 29), (1, rf S a1)]) hX dX4_pop_12 (by decide) rfl ?_
  refine V_aload_n hX dX4_pop_13 1 rfl ?_
  refine V_getI hX fk_X4_21 tb_29 (fun _ _ _ => rfl) dX4_pop_14 ?_
  refine V_if_le (tgt := 33) hX dX4_pop_17 (by decide) (fun hc4 => ?_) (fun hc4 => ?_)
  · replace hP := ite_t hc4 hP
    refine V_iconst (v := (-1)) hX dX4_pop_33 (by decide) ?_
    exact hR _ _ _ _ (Option.some.inj hP) rfl dX4_pop_34
  · replace hP := ite_f hc4 hP
    refine V_iload_n hX dX4_pop_20 0 rfl ?_
    refine V_if_lt (tgt := 33) hX dX4_pop_21 (by decide) (fun hc5 => ?_) (fun hc5 => ?_)
    · replace hP := ite_t hc5 hP
      refine V_iconst (v := (-1)) hX dX4_pop_33 (by decide) ?_
      exact hR _ _ _ _ (Option.some.inj hP) rfl dX4_pop_34
    · replace hP := ite_f hc5 hP
      refine V_iload_n hX dX4_pop_24 0 rfl ?_
      refine V_aload_n hX dX4_pop_25 1 rfl ?_
      refine V_getF (j := 30) hX fk_X4_13 tb_29 (fun _ _ _ => rfl) dX4_pop_26 ?_
      refine V_alenB (v := 15) hX tb_30 (by decide) dX4_pop_29 ?_
      refine V_icmp_lt (tgt := 35) hX dX4_pop_30 (by decide) (fun hc6 => ?_) (fun hc6 => ?_)
      · replace hP := ite_t hc6 hP
        refine V_aload_n hX dX4_pop_35 2 rfl ?_
        refine V_aload_n hX dX4_pop_36 1 rfl ?_
        refine V_getF (j := 30) hX fk_X4_13 tb_29 (fun _ _ _ => rfl) dX4_pop_37 ?_
        refine V_iload_n hX dX4_pop_40 0 rfl ?_
        obtain ⟨hi7, hP⟩ := gd_e hP
        refine V_aald hX tb_30 hi7 dX4_pop_41 ?_
        refine V_topr (fun a8 ea8 => ?_)
        replace hP := lt_r ea8 hP
        obtain ⟨ha8, hP⟩ := gd_e hP
        obtain ⟨w9, hcw9, hP⟩ := bnv_e hP
        refine V_callVv (As := [rf S a8]) (rest := []) hX mk_X4_25 nk_X1_copy (fun l => c_X1_copy l S ha1 ha8 hcw9) (tb_X1 ha1) rfl ⟨rfl, rfl, Nat.le_of_ble_eq_true rfl, Nat.le_of_ble_eq_true rfl⟩ rfl rfl (Nat.le_of_ble_eq_true rfl) dX4_pop_42 ?_
        refine V_aload_n hX dX4_pop_45 1 rfl ?_
        refine V_iload_n hX dX4_pop_46 0 rfl ?_
        refine V_putI hX fw_X4_17 tb_29 (fun _ _ _ => ⟨Nat.le_of_ble_eq_true rfl, rfl⟩) dX4_pop_47 (fun w10 ew10 => ?_)
        replace hP := lt_r ew10 hP
        refine V_aload_n hX dX4_pop_50 1 rfl ?_
        refine V_dup hX dX4_pop_51 rfl ?_
        refine V_getI hX fk_X4_21 tb_29 (fun _ _ _ => rfl) dX4_pop_52 ?_
        refine V_iconst (v := 1) hX dX4_pop_55 (by decide) ?_
        refine V_isub hX dX4_pop_56 ?_
        refine V_putI hX fw_X4_21 tb_29 (fun _ _ _ => ⟨Nat.le_of_ble_eq_true rfl, rfl⟩) dX4_pop_57 (fun w11 ew11 => ?_)
        replace hP := lt_r ew11 hP
        refine V_aload_n hX dX4_pop_60 1 rfl ?_
        refine V_getI hX fk_X4_21 tb_29 (fun _ _ _ => rfl) dX4_pop_61 ?_
        exact hR _ _ _ _ (Option.some.inj hP) rfl dX4_pop_64
      · replace hP := ite_f hc6 hP
        refine V_iconst (v := (-1)) hX dX4_pop_33 (by decide) ?_
        exact hR _ _ _ _ (Option.some.inj hP) rfl dX4_pop_34
theorem c_X4_pop (l : Launch) (S : Sx) {r : Int32 × Wd} {F : Nat} {w : Wd} {a1 : Nat} (ha1 : isX1 a1 = true) (h : P_X4_pop F w a1 = some r) : Met l yX4_pop (wsg yX4_pop cX4_pop 3 (some .int)) rm_X4_pop (PC S w [rf S 29, rf S a1]) (QCi S r) 0 0 (Aw S) :=
  met_i (by decide) rfl (Nat.le_of_ble_eq_true rfl) ⟨rfl, rfl⟩ (fun X hX hR => s_X4_pop ha1 hX hR h)

-- MustNotStop$Roll.has(I)Z
abbrev rm_X5_has : Room := { frames := 1, cells := 0, slots := 0, locals := 64 }
theorem nk_X5_has : MNk yX5_has RX5 1 := ⟨rfl, by decide, by decide, by decide +kernel⟩
def P_X5_has (F : Nat) (w : Wd) (a1 : Nat) (x2 : Int32) : Option (Int32 × Wd) := lt (if x2 < 0 then 0 else if (gI w a1 2) ≤ x2 then 0 else if (8 : Int32) ≤ x2 then 0 else 1 : Int32) (fun x6 => gd (isZO x6) (some (x6, w)))
set_option maxRecDepth 100000 in
set_option maxHeartbeats 4000000 in
theorem s_X5_has {X : Cx} {S : Sx} {r : Int32 × Wd} {F : Nat} {w : Wd} {a1 : Nat} {x2 : Int32} (ha1 : isX5 a1 = true) (hX : Ok X S cX5_has RX5 2 rm_X5_has) (hR : HRt X S cX5_has .boolean r) (hP : P_X5_has F w a1 x2 = some r) : V X S w 0 [(0, rf S a1), (1, .int x2)] [] := by
  unfold P_X5_has at hP
  refine V_iload_n hX dX5_has_0 1 rfl ?_
  have k8 : V X S w 23 [(0, rf S a1), (1, .int x2)] [.int (if x2 < 0 then 0 else if (gI w a1 2) ≤ x2 then 0 else if (8 : Int32) ≤ x2 then 0 else 1)] := by
    refine V_topi (fun x6 ex6 => ?_)
    replace hP := lt_r ex6 hP
    obtain ⟨hz7, hP⟩ := gd_e hP
    exact hR _ _ _ _ (Option.some.inj hP) (nar_z hz7) dX5_has_23
  refine V_if_lt (tgt := 22) hX dX5_has_1 (by decide) (fun hc5 => ?_) (fun hc5 => ?_)
  · refine V_iconst (v := 0) hX dX5_has_22 (by decide) ?_
    refine V_selT (c := x2 < 0) (b := if (gI w a1 2) ≤ x2 then 0 else if (8 : Int32) ≤ x2 then 0 else 1) hc5 ?_
    exact k8
  · refine V_iload_n hX dX5_has_4 1 rfl ?_
    refine V_aload_n hX dX5_has_5 0 rfl ?_
    refine V_getI hX fk_X5_18 (tb_X5 ha1) (fun _ _ _ => rfl) dX5_has_6 ?_
    refine V_icmp_ge (tgt := 22) hX dX5_has_9 (by decide) (fun hc4 => ?_) (fun hc4 => ?_)
    · refine V_iconst (v := 0) hX dX5_has_22 (by decide) ?_
      refine V_selT (c := (gI w a1 2) ≤ x2) (b := if (8 : Int32) ≤ x2 then 0 else 1) hc4 ?_
      refine V_selF (c := x2 < 0) (a := 0) hc5 ?_
      exact k8
    · refine V_iload_n hX dX5_has_12 1 rfl ?_
      refine V_bipush (v := 8) hX dX5_has_13 (by decide) ?_
      refine V_icmp_ge (tgt := 22) hX dX5_has_15 (by decide) (fun hc3 => ?_) (fun hc3 => ?_)
      · refine V_iconst (v := 0) hX dX5_has_22 (by decide) ?_
        refine V_selT (c := (8 : Int32) ≤ x2) (b := 1) hc3 ?_
        refine V_selF (c := (gI w a1 2) ≤ x2) (a := 0) hc4 ?_
        refine V_selF (c := x2 < 0) (a := 0) hc5 ?_
        exact k8
      · refine V_iconst (v := 1) hX dX5_has_18 (by decide) ?_
        refine V_goto (tgt := 23) hX dX5_has_19 (by decide) ?_
        refine V_selF (c := (8 : Int32) ≤ x2) (a := 0) hc3 ?_
        refine V_selF (c := (gI w a1 2) ≤ x2) (a := 0) hc4 ?_
        refine V_selF (c := x2 < 0) (a := 0) hc5 ?_
        exact k8
theorem c_X5_has (l : Launch) (S : Sx) {r : Int32 × Wd} {F : Nat} {w : Wd} {a1 : Nat} {x2 : Int32} (ha1 : isX5 a1 = true) (h : P_X5_has F w a1 x2 = some r) : Met l yX5_has (wsg yX5_has cX5_has 2 (some .boolean)) rm_X5_has (PC S w [rf S a1, .int x2]) (QCi S r) 0 0 (Aw S) :=
  met_i (by decide) rfl (Nat.le_of_ble_eq_true rfl) ⟨rfl, rfl⟩ (fun X hX hR => s_X5_has ha1 hX hR h)

-- MustNotStop$Roll.firstOf(I)I
abbrev rm_X5_firstOf : Room := { frames := 2, cells := 0, slots := 0, locals := 85 }
theorem nk_X5_firstOf : MNk yX5_firstOf RX5 1 := ⟨rfl, by decide, by decide, by decide +kernel⟩
def P_X5_firstOf (F : Nat) (w : Wd) (a1 : Nat) (x2 : Int32) : Option (Int32 × Wd) := bnd (P_X5_has F w a1 x2) (fun x4 w3 => (if x4 = 0 then some (0, w3) else gd (inB x2 8) (some (gI w3 (a1 + 1) x2.toNatClampNeg, w3))))
set_option maxRecDepth 100000 in
set_option maxHeartbeats 4000000 in
theorem s_X5_firstOf {X : Cx} {S : Sx} {r : Int32 × Wd} {F : Nat} {w : Wd} {a1 : Nat} {x2 : Int32} (ha1 : isX5 a1 = true) (hX : Ok X S cX5_firstOf RX5 2 rm_X5_firstOf) (hR : HRt X S cX5_firstOf .int r) (hP : P_X5_firstOf F w a1 x2 = some r) : V X S w 0 [(0, rf S a1), (1, .int x2)] [] := by
  unfold P_X5_firstOf at hP
  refine V_aload_n hX dX5_firstOf_0 0 rfl ?_
  refine V_iload_n hX dX5_firstOf_1 1 rfl ?_
  obtain ⟨x4, w3, hcw3, hP⟩ := bnd_e hP
  refine V_callVi (As := [.int x2]) (rest := []) hX mk_X5_22 nk_X5_has (fun l => c_X5_has l S ha1 hcw3) (tb_X5 ha1) rfl ⟨rfl, rfl, Nat.le_of_ble_eq_true rfl, Nat.le_of_ble_eq_true rfl⟩ rfl rfl (Nat.le_of_ble_eq_true rfl) dX5_firstOf_2 ?_
  refine V_if_eq (tgt := 17) hX dX5_firstOf_5 (by decide) (fun hc5 => ?_) (fun hc5 => ?_)
  · replace hP := ite_t hc5 hP
    refine V_iconst (v := 0) hX dX5_firstOf_17 (by decide) ?_
    exact hR _ _ _ _ (Option.some.inj hP) rfl dX5_firstOf_18
  · replace hP := ite_f hc5 hP
    refine V_aload_n hX dX5_firstOf_8 0 rfl ?_
    refine V_getF (j := a1 + 1) hX fk_X5_9 (tb_X5 ha1) (fun _ _ _ => rfl) dX5_firstOf_9 ?_
    refine V_iload_n hX dX5_firstOf_12 1 rfl ?_
    obtain ⟨hi6, hP⟩ := gd_e hP
    refine V_iald hX (tb_X5_1 ha1) hi6 dX5_firstOf_13 ?_
    refine V_goto (tgt := 18) hX dX5_firstOf_14 (by decide) ?_
    exact hR _ _ _ _ (Option.some.inj hP) rfl dX5_firstOf_18
theorem c_X5_firstOf (l : Launch) (S : Sx) {r : Int32 × Wd} {F : Nat} {w : Wd} {a1 : Nat} {x2 : Int32} (ha1 : isX5 a1 = true) (h : P_X5_firstOf F w a1 x2 = some r) : Met l yX5_firstOf (wsg yX5_firstOf cX5_firstOf 2 (some .int)) rm_X5_firstOf (PC S w [rf S a1, .int x2]) (QCi S r) 0 0 (Aw S) :=
  met_i (by decide) rfl (Nat.le_of_ble_eq_true rfl) ⟨rfl, rfl⟩ (fun X hX hR => s_X5_firstOf ha1 hX hR h)

-- MustNotStop$Roll.secondOf(I)I
abbrev rm_X5_secondOf : Room := { frames := 2, cells := 0, slots := 0, locals := 85 }
theorem nk_X5_secondOf : MNk yX5_secondOf RX5 1 := ⟨rfl, by decide, by decide, by decide +kernel⟩
def P_X5_secondOf (F : Nat) (w : Wd) (a1 : Nat) (x2 : Int32) : Option (Int32 × Wd) := bnd (P_X5_has F w a1 x2) (fun x4 w3 => (if x4 = 0 then some (0, w3) else gd (inB x2 8) (some (gI w3 (a1 + 2) x2.toNatClampNeg, w3))))
set_option maxRecDepth 100000 in
set_option maxHeartbeats 4000000 in
theorem s_X5_secondOf {X : Cx} {S : Sx} {r : Int32 × Wd} {F : Nat} {w : Wd} {a1 : Nat} {x2 : Int32} (ha1 : isX5 a1 = true) (hX : Ok X S cX5_secondOf RX5 2 rm_X5_secondOf) (hR : HRt X S cX5_secondOf .int r) (hP : P_X5_secondOf F w a1 x2 = some r) : V X S w 0 [(0, rf S a1), (1, .int x2)] [] := by
  unfold P_X5_secondOf at hP
  refine V_aload_n hX dX5_secondOf_0 0 rfl ?_
  refine V_iload_n hX dX5_secondOf_1 1 rfl ?_
  obtain ⟨x4, w3, hcw3, hP⟩ := bnd_e hP
  refine V_callVi (As := [.int x2]) (rest := []) hX mk_X5_22 nk_X5_has (fun l => c_X5_has l S ha1 hcw3) (tb_X5 ha1) rfl ⟨rfl, rfl, Nat.le_of_ble_eq_true rfl, Nat.le_of_ble_eq_true rfl⟩ rfl rfl (Nat.le_of_ble_eq_true rfl) dX5_secondOf_2 ?_
  refine V_if_eq (tgt := 17) hX dX5_secondOf_5 (by decide) (fun hc5 => ?_) (fun hc5 => ?_)
  · replace hP := ite_t hc5 hP
    refine V_iconst (v := 0) hX dX5_secondOf_17 (by decide) ?_
    exact hR _ _ _ _ (Option.some.inj hP) rfl dX5_secondOf_18
  · replace hP := ite_f hc5 hP
    refine V_aload_n hX dX5_secondOf_8 0 rfl ?_
    refine V_getF (j := a1 + 2) hX fk_X5_15 (tb_X5 ha1) (fun _ _ _ => rfl) dX5_secondOf_9 ?_
    refine V_iload_n hX dX5_secondOf_12 1 rfl ?_
    obtain ⟨hi6, hP⟩ := gd_e hP
    refine V_iald hX (tb_X5_2 ha1) hi6 dX5_secondOf_13 ?_
    refine V_goto (tgt := 18) hX dX5_secondOf_14 (by decide) ?_
    exact hR _ _ _ _ (Option.some.inj hP) rfl dX5_secondOf_18
theorem c_X5_secondOf (l : Launch) (S : Sx) {r : Int32 × Wd} {F : Nat} {w : Wd} {a1 : Nat} {x2 : Int32} (ha1 : isX5 a1 = true) (h : P_X5_secondOf F w a1 x2 = some r) : Met l yX5_secondOf (wsg yX5_secondOf cX5_secondOf 2 (some .int)) rm_X5_secondOf (PC S w [rf S a1, .int x2]) (QCi S r) 0 0 (Aw S) :=
  met_i (by decide) rfl (Nat.le_of_ble_eq_true rfl) ⟨rfl, rfl⟩ (fun X hX hR => s_X5_secondOf ha1 hX hR h)

-- MustNotStop$Roll.secondsOf(I)I
abbrev rm_X5_secondsOf : Room := { frames := 3, cells := 0, slots := 0, locals := 106 }
theorem nk_X5_secondsOf : MNk yX5_secondsOf RX5 1 := ⟨rfl, by decide, by decide, by decide +kernel⟩
def L_X5_secondsOf_4 (F : Nat) (a1 : Nat) (x2 : Int32) (k30 : Wd → Int32 → Option (Int32 × Wd)) : Nat → Wd → Int32 → Int32 → Option (Int32 × Wd)
  | 0, _, _, _ => none
  | n + 1, w, x3, x4 => (if (8 : Int32) ≤ x4 then k30 w x3 else bnd (P_X5_secondOf F w a1 x4) (fun x8 w7 => lt (x3 + (((ishrI x2 x4) &&& 1) * x8) : Int32) (fun x9 => lt (x4 + 1 : Int32) (fun x10 => L_X5_secondsOf_4 F a1 x2 k30 n w7 x9 x10))))
set_option maxRecDepth 100000 in
set_option maxHeartbeats 4000000 in
theorem sL_X5_secondsOf_4 {X : Cx} {S : Sx} {r : Int32 × Wd} {F : Nat} {a1 : Nat} {x2 : Int32} {k30 : Wd → Int32 → Option (Int32 × Wd)} (hX : Ok X S cX5_secondsOf RX5 4 rm_X5_secondsOf) (hR : HRt X S cX5_secondsOf .int r) (ha1 : isX5 a1 = true) (hk30 : ∀ (w : Wd) (x5 : Int32) , k30 w x5 = some r → V X S w 30 [(2, .int x5)] []) : ∀ (n : Nat) (w : Wd) (x3 : Int32) (x4 : Int32) , L_X5_secondsOf_4 F a1 x2 k30 n w x3 x4 = some r → V X S w 4 [(0, rf S a1), (1, .int x2), (2, .int x3), (3, .int x4)] [] := by
  intro n
  induction n with
  | zero =>
    intro w x3 x4  hP
    exact nn hP
  | succ n ih =>
    intro w x3 x4  hP
    rw [L_X5_secondsOf_4] at hP
    refine V_iload_n hX dX5_secondsOf_4 3 rfl ?_
    refine V_bipush (v := 8) hX dX5_secondsOf_5 (by decide) ?_
    refine V_icmp_ge (tgt := 30) hX dX5_secondsOf_7 (by decide) (fun hc6 => ?_) (fun hc6 => ?_)
    · replace hP := ite_t hc6 hP
      refine V_sub (lv' := [(2, .int x3)]) [2] rfl ?_
      exact hk30 _ _  hP
    · replace hP := ite_f hc6 hP
      refine V_iload_n hX dX5_secondsOf_10 2 rfl ?_
      refine V_iload_n hX dX5_secondsOf_11 1 rfl ?_
      refine V_iload_n hX dX5_secondsOf_12 3 rfl ?_
      refine V_ishr hX dX5_secondsOf_13 ?_
      refine V_iconst (v := 1) hX dX5_secondsOf_14 (by decide) ?_
      refine V_iand hX dX5_secondsOf_15 ?_
      refine V_aload_n hX dX5_secondsOf_16 0 rfl ?_
      refine V_iload_n hX dX5_secondsOf_17 3 rfl ?_
      obtain ⟨x8, w7, hcw7, hP⟩ := bnd_e hP
      refine V_callVi (As := [.int x4]) (rest := [.int ((ishrI x2 x4) &&& 1), .int x3]) hX mk_X5_26 nk_X5_secondOf (fun l => c_X5_secondOf l S ha1 hcw7) (tb_X5 ha1) rfl ⟨rfl, rfl, Nat.le_of_ble_eq_true rfl, Nat.le_of_ble_eq_true rfl⟩ rfl rfl (Nat.le_of_ble_eq_true rfl) dX5_secondsOf_18 ?_
      refine V_imul hX dX5_secondsOf_21 ?_
      refine V_iadd hX dX5_secondsOf_22 ?_
      refine V_topi (fun x9 ex9 => ?_)
      replace hP := lt_r ex9 hP
      refine V_istore_n (lv' := [(2, .int x9), (0, rf S a1), (1, .int x2), (3, .int x4)]) hX dX5_secondsOf_23 (by decide) rfl ?_
      obtain ⟨x10, ex10⟩ : ∃ y : Int32, y = x4 + 1 := ⟨_, rfl⟩
      replace hP := lt_r ex10 hP
      refine V_iinc (v := x10) (lv' := [(3, .int x10), (2, .int x9), (0, rf S a1), (1, .int x2)]) hX dX5_secondsOf_24 (j := 3) rfl (by decide) (by rw [ex10]; rfl) rfl ?_
      refine V_goto (tgt := 4) hX dX5_secondsOf_27 (by decide) ?_
      refine V_sub (lv' := [(0, rf S a1), (1, .int x2), (2, .int x9), (3, .int x10)]) [2, 3, 1, 0] rfl ?_
      exact ih _ _ _  hP
def P_X5_secondsOf (F : Nat) (w : Wd) (a1 : Nat) (x2 : Int32) : Option (Int32 × Wd) := L_X5_secondsOf_4 F a1 x2 (fun w x5 => some (x5, w)) F w 0 0
set_option maxRecDepth 100000 in
set_option maxHeartbeats 4000000 in
theorem s_X5_secondsOf {X : Cx} {S : Sx} {r : Int32 × Wd} {F : Nat} {w : Wd} {a1 : Nat} {x2 : Int32} (ha1 : isX5 a1 = true) (hX : Ok X S cX5_secondsOf RX5 4 rm_X5_secondsOf) (hR : HRt X S cX5_secondsOf .int r) (hP : P_X5_secondsOf F w a1 x2 = some r) : V X S w 0 [(0, rf S a1), (1, .int x2)] [] := by
  unfold P_X5_secondsOf at hP
  refine V_iconst (v := 0) hX dX5_secondsOf_0 (by decide) ?_
  refine V_istore_n (lv' := [(2, .int 0), (0, rf S a1), (1, .int x2)]) hX dX5_secondsOf_1 (by decide) rfl ?_
  refine V_iconst (v := 0) hX dX5_secondsOf_2 (by decide) ?_
  refine V_istore_n (lv' := [(3, .int 0), (2, .int 0), (0, rf S a1), (1, .int x2)]) hX dX5_secondsOf_3 (by decide) rfl ?_
  refine V_sub (lv' := [(0, rf S a1), (1, .int x2), (2, .int 0), (3, .int 0)]) [2, 3, 1, 0] rfl ?_
  have k11 : ∀ (w : Wd) (x5 : Int32) , (some (x5, w)) = some r → V X S w 30 [(2, .int x5)] [] := by
    intro w x5  hP
    refine V_iload_n hX dX5_secondsOf_30 0 rfl ?_
    exact hR _ _ _ _ (Option.some.inj hP) rfl dX5_secondsOf_31
  exact sL_X5_secondsOf_4 hX hR ha1 k11 F _ _ _  hP
theorem c_X5_secondsOf (l : Launch) (S : Sx) {r : Int32 × Wd} {F : Nat} {w : Wd} {a1 : Nat} {x2 : Int32} (ha1 : isX5 a1 = true) (h : P_X5_secondsOf F w a1 x2 = some r) : Met l yX5_secondsOf (wsg yX5_secondsOf cX5_secondsOf 4 (some .int)) rm_X5_secondsOf (PC S w [rf S a1, .int x2]) (QCi S r) 0 0 (Aw S) :=
  met_i (by decide) rfl (Nat.le_of_ble_eq_true rfl) ⟨rfl, rfl⟩ (fun X hX hR => s_X5_secondsOf ha1 hX hR h)

-- MustNotStop$Roll.fits(II)Z
abbrev rm_X5_fits : Room := { frames := 1, cells := 0, slots := 0, locals := 64 }
theorem nk_X5_fits : MNk yX5_fits RX5 2 := ⟨rfl, by decide, by decide, by decide +kernel⟩
def P_X5_fits (F : Nat) (w : Wd) (a1 : Nat) (x2 : Int32) (x3 : Int32) : Option (Int32 × Wd) := (if (iremI x2 3) = 0 then (if x3 < 49 then some (0, w) else (if (57 : Int32) < x3 then some (0, w) else lt (if (8 : Int32) ≤ ((gI w a1 2) + (x2 / 3)) then 0 else 1 : Int32) (fun x10 => gd (isZO x10) (some (x10, w))))) else (if (iremI x2 3) = 1 then lt (if x3 < 48 then 0 else if (57 : Int32) < x3 then 0 else 1 : Int32) (fun x16 => gd (isZO x16) (some (x16, w))) else lt (if x3 = 59 then 1 else 0 : Int32) (fun x20 => gd (isZO x20) (some (x20, w)))))
set_option maxRecDepth 100000 in
set_option maxHeartbeats 4000000 in
theorem s_X5_fits {X : Cx} {S : Sx} {r : Int32 × Wd} {F : Nat} {w : Wd} {a1 : Nat} {x2 : Int32} {x3 : Int32} (ha1 : isX5 a1 = true) (hX : Ok X S cX5_fits RX5 3 rm_X5_fits) (hR : HRt X S cX5_fits .boolean r) (hP : P_X5_fits F w a1 x2 x3 = some r) : V X S w 0 [(0, rf S a1), (1, .int x2), (2, .int x3)] [] := by
  unfold P_X5_fits at hP
  refine V_iload_n hX dX5_fits_0 1 rfl ?_
  refine V_iconst (v := 3) hX dX5_fits_1 (by decide) ?_
  refine V_irem hX dX5_fits_2 (by decide) ?_
  by_cases hc5 : iremI x2 3 = 0
  · replace hP := ite_t hc5 hP
    refine V_lookup (tgt := 28) hX dX5_fits_3 (by decide) (by rw [hc5] <;> rfl) (by decide) ?_
    refine V_iload_n hX dX5_fits_28 2 rfl ?_
    refine V_bipush (v := 49) hX dX5_fits_29 (by decide) ?_
    refine V_icmp_lt (tgt := 57) hX dX5_fits_31 (by decide) (fun hc6 => ?_) (fun hc6 => ?_)
    · replace hP := ite_t hc6 hP
      refine V_iconst (v := 0) hX dX5_fits_57 (by decide) ?_
      exact hR _ _ _ _ (Option.some.inj hP) rfl dX5_fits_58
    · replace hP := ite_f hc6 hP
      refine V_iload_n hX dX5_fits_34 2 rfl ?_
      refine V_bipush (v := 57) hX dX5_fits_35 (by decide) ?_
      refine V_icmp_gt (tgt := 57) hX dX5_fits_37 (by decide) (fun hc7 => ?_) (fun hc7 => ?_)
      · replace hP := ite_t hc7 hP
        refine V_iconst (v := 0) hX dX5_fits_57 (by decide) ?_
        exact hR _ _ _ _ (Option.some.inj hP) rfl dX5_fits_58
      · replace hP := ite_f hc7 hP
        refine V_aload_n hX dX5_fits_40 0 rfl ?_
        refine V_getI hX fk_X5_18 (tb_X5 ha1) (fun _ _ _ => rfl) dX5_fits_41 ?_
        refine V_iload_n hX dX5_fits_44 1 rfl ?_
        refine V_iconst (v := 3) hX dX5_fits_45 (by decide) ?_
        refine V_idiv hX dX5_fits_46 (by decide) ?_
        refine V_iadd hX dX5_fits_47 ?_
        refine V_bipush (v := 8) hX dX5_fits_48 (by decide) ?_
        have k12 : V X S w 58 [(0, rf S a1), (1, .int x2), (2, .int x3)] [.int (if (8 : Int32) ≤ ((gI w a1 2) + (x2 / 3)) then 0 else 1)] := by
          refine V_topi (fun x10 ex10 => ?_)
          replace hP := lt_r ex10 hP
          obtain ⟨hz11, hP⟩ := gd_e hP
          exact hR _ _ _ _ (Option.some.inj hP) (nar_z hz11) dX5_fits_58
        refine V_icmp_ge (tgt := 57) hX dX5_fits_50 (by decide) (fun hc9 => ?_) (fun hc9 => ?_)
        · refine V_iconst (v := 0) hX dX5_fits_57 (by decide) ?_
          refine V_selT (c := (8 : Int32) ≤ ((gI w a1 2) + (x2 / 3))) (b := 1) hc9 ?_
          exact k12
        · refine V_iconst (v := 1) hX dX5_fits_53 (by decide) ?_
          refine V_goto (tgt := 58) hX dX5_fits_54 (by decide) ?_
          refine V_selF (c := (8 : Int32) ≤ ((gI w a1 2) + (x2 / 3))) (a := 0) hc9 ?_
          exact k12
  replace hP := ite_f hc5 hP
  by_cases hc13 : iremI x2 3 = 1
  · replace hP := ite_t hc13 hP
    refine V_lookup (tgt := 59) hX dX5_fits_3 (by decide) (by rw [hc13] <;> rfl) (by decide) ?_
    refine V_iload_n hX dX5_fits_59 2 rfl ?_
    refine V_bipush (v := 48) hX dX5_fits_60 (by decide) ?_
    have k18 : V X S w 76 [(0, rf S a1), (1, .int x2), (2, .int x3)] [.int (if x3 < 48 then 0 else if (57 : Int32) < x3 then 0 else 1)] := by
      refine V_topi (fun x16 ex16 => ?_)
      replace hP := lt_r ex16 hP
      obtain ⟨hz17, hP⟩ := gd_e hP
      exact hR _ _ _ _ (Option.some.inj hP) (nar_z hz17) dX5_fits_76
    refine V_icmp_lt (tgt := 75) hX dX5_fits_62 (by decide) (fun hc15 => ?_) (fun hc15 => ?_)
    · refine V_iconst (v := 0) hX dX5_fits_75 (by decide) ?_
      refine V_selT (c := x3 < 48) (b := if (57 : Int32) < x3 then 0 else 1) hc15 ?_
      exact k18
    · refine V_iload_n hX dX5_fits_65 2 rfl ?_
      refine V_bipush (v := 57) hX dX5_fits_66 (by decide) ?_
      refine V_icmp_gt (tgt := 75) hX dX5_fits_68 (by decide) (fun hc14 => ?_) (fun hc14 => ?_)
      · refine V_iconst (v := 0) hX dX5_fits_75 (by decide) ?_
        refine V_selT (c := (57 : Int32) < x3) (b := 1) hc14 ?_
        refine V_selF (c := x3 < 48) (a := 0) hc15 ?_
        exact k18
      · refine V_iconst (v := 1) hX dX5_fits_71 (by decide) ?_
        refine V_goto (tgt := 76) hX dX5_fits_72 (by decide) ?_
        refine V_selF (c := (57 : Int32) < x3) (a := 0) hc14 ?_
        refine V_selF (c := x3 < 48) (a := 0) hc15 ?_
        exact k18
  replace hP := ite_f hc13 hP
  refine V_lookup (tgt := 77) hX dX5_fits_3 (by decide) (lk_out (by
      intro q hq
      simp only [List.mem_cons, List.not_mem_nil, or_false] at hq
      rcases hq with rfl | rfl
      · exact fun e => hc5 (i32_ext (e.trans rfl))
      · exact fun e => hc13 (i32_ext (e.trans rfl))
      )) (by decide) ?_
  refine V_iload_n hX dX5_fits_77 2 rfl ?_
  refine V_bipush (v := 59) hX dX5_fits_78 (by decide) ?_
  have k22 : V X S w 88 [(0, rf S a1), (1, .int x2), (2, .int x3)] [.int (if x3 = 59 then 1 else 0)] := by
    refine V_topi (fun x20 ex20 => ?_)
    replace hP := lt_r ex20 hP
    obtain ⟨hz21, hP⟩ := gd_e hP
    exact hR _ _ _ _ (Option.some.inj hP) (nar_z hz21) dX5_fits_88
  refine V_icmp_ne (tgt := 87) hX dX5_fits_80 (by decide) (fun hc19 => ?_) (fun hc19 => ?_)
  · refine V_iconst (v := 0) hX dX5_fits_87 (by decide) ?_
    refine V_selF (c := x3 = 59) (a := 1) hc19 ?_
    exact k22
  · refine V_iconst (v := 1) hX dX5_fits_83 (by decide) ?_
    refine V_goto (tgt := 88) hX dX5_fits_84 (by decide) ?_
    refine V_selT (c := x3 = 59) (b := 0) hc19 ?_
    exact k22
theorem c_X5_fits (l : Launch) (S : Sx) {r : Int32 × Wd} {F : Nat} {w : Wd} {a1 : Nat} {x2 : Int32} {x3 : Int32} (ha1 : isX5 a1 = true) (h : P_X5_fits F w a1 x2 x3 = some r) : Met l yX5_fits (wsg yX5_fits cX5_fits 3 (some .boolean)) rm_X5_fits (PC S w [rf S a1, .int x2, .int x3]) (QCi S r) 0 0 (Aw S) :=
  met_i (by decide) rfl (Nat.le_of_ble_eq_true rfl) ⟨rfl, rfl⟩ (fun X hX hR => s_X5_fits ha1 hX hR h)

-- MustNotStop$Roll.faultIn(LMustNotStop$Text;)I
abbrev rm_X5_faultIn : Room := { frames := 2, cells := 0, slots := 0, locals := 86 }
theorem nk_X5_faultIn : MNk yX5_faultIn RX5 1 := ⟨rfl, by decide, by decide, by decide +kernel⟩
def L_X5_faultIn_12 (F : Nat) (a1 : Nat) (x3 : Int32) (k38 : Wd → Option (Int32 × Wd)) : Nat → Wd → Int32 → Option (Int32 × Wd)
  | 0, _, _ => none
  | n + 1, w, x4 => (if x3 ≤ x4 then k38 w  else bnd (P_X8_at F w x4) (fun x7 w6 => bnd (P_X5_fits F w6 a1 x4 x7) (fun x9 w8 => (if x9 = 0 then some (x4, w8) else lt (x4 + 1 : Int32) (fun x11 => L_X5_faultIn_12 F a1 x3 k38 n w8 x11)))))
set_option maxRecDepth 100000 in
set_option maxHeartbeats 4000000 in
theorem sL_X5_faultIn_12 {X : Cx} {S : Sx} {r : Int32 × Wd} {F : Nat} {a1 : Nat} {x3 : Int32} {k38 : Wd → Option (Int32 × Wd)} (hX : Ok X S cX5_faultIn RX5 4 rm_X5_faultIn) (hR : HRt X S cX5_faultIn .int r) (ha1 : isX5 a1 = true) (hk38 : ∀ (w : Wd), k38 w = some r → V X S w 38 [(1, rf S 1), (2, .int x3)] []) : ∀ (n : Nat) (w : Wd) (x4 : Int32) , L_X5_faultIn_12 F a1 x3 k38 n w x4 = some r → V X S w 12 [(0, rf S a1), (1, rf S 1), (2, .int x3), (3, .int x4)] [] := by
  intro n
  induction n with
  | zero =>
    intro w x4  hP
    exact nn hP
  | succ n ih =>
    intro w x4  hP
    rw [L_X5_faultIn_12] at hP
    refine V_iload_n hX dX5_faultIn_12 3 rfl ?_
    refine V_iload_n hX dX5_faultIn_13 2 rfl ?_
    refine V_icmp_ge (tgt := 38) hX dX5_faultIn_14 (by decide) (fun hc5 => ?_) (fun hc5 => ?_)
    · replace hP := ite_t hc5 hP
      refine V_sub (lv' := [(1, rf S 1), (2, .int x3)]) [1, 2] rfl ?_
      exact hk38 _   hP
    · replace hP := ite_f hc5 hP
      refine V_aload_n hX dX5_faultIn_17 0 rfl ?_
      refine V_iload_n hX dX5_faultIn_18 3 rfl ?_
      refine V_aload_n hX dX5_faultIn_19 1 rfl ?_
      refine V_iload_n hX dX5_faultIn_20 3 rfl ?_
      obtain ⟨x7, w6, hcw6, hP⟩ := bnd_e hP
      refine V_callVi (As := [.int x4]) (rest := [.int x4, rf S a1]) hX mk_X5_39 nk_X8_at (fun l => c_X8_at l S  hcw6) tb_1 rfl ⟨rfl, rfl, Nat.le_of_ble_eq_true rfl, Nat.le_of_ble_eq_true rfl⟩ rfl rfl (Nat.le_of_ble_eq_true rfl) dX5_faultIn_21 ?_
      obtain ⟨x9, w8, hcw8, hP⟩ := bnd_e hP
      refine V_callVi (As := [.int x4, .int x7]) (rest := []) hX mk_X5_42 nk_X5_fits (fun l => c_X5_fits l S ha1 hcw8) (tb_X5 ha1) rfl ⟨rfl, rfl, Nat.le_of_ble_eq_true rfl, Nat.le_of_ble_eq_true rfl⟩ rfl rfl (Nat.le_of_ble_eq_true rfl) dX5_faultIn_24 ?_
      refine V_if_ne (tgt := 32) hX dX5_faultIn_27 (by decide) (fun hc10 => ?_) (fun hc10 => ?_)
      · replace hP := ite_f hc10 hP
        obtain ⟨x11, ex11⟩ : ∃ y : Int32, y = x4 + 1 := ⟨_, rfl⟩
        replace hP := lt_r ex11 hP
        refine V_iinc (v := x11) (lv' := [(3, .int x11), (0, rf S a1), (1, rf S 1), (2, .int x3)]) hX dX5_faultIn_32 (j := 3) rfl (by decide) (by rw [ex11]; rfl) rfl ?_
        refine V_goto (tgt := 12) hX dX5_faultIn_35 (by decide) ?_
        refine V_sub (lv' := [(0, rf S a1), (1, rf S 1), (2, .int x3), (3, .int x11)]) [1, 2, 3, 0] rfl ?_
        exact ih _ _  hP
      · replace hP := ite_t hc10 hP
        refine V_iload_n hX dX5_faultIn_30 3 rfl ?_
        exact hR _ _ _ _ (Option.some.inj hP) rfl dX5_faultIn_31
def K_X5_faultIn_61 (F : Nat) (a1 : Nat)  (w : Wd)  : Option (Int32 × Wd) := some ((-1), w)
set_option maxRecDepth 100000 in
set_option maxHeartbeats 4000000 in
theorem sK_X5_faultIn_61 {X : Cx} {S : Sx} {r : Int32 × Wd} {F : Nat} {a1 : Nat}  {w : Wd}  (hX : Ok X S cX5_faultIn RX5 4 rm_X5_faultIn) (hR : HRt X S cX5_faultIn .int r) (ha1 : isX5 a1 = true)   (hP : K_X5_faultIn_61 F a1  w  = some r) : V X S w 61 [] [] := by
  unfold K_X5_faultIn_61 at hP
  refine V_iconst (v := (-1)) hX dX5_faultIn_61 (by decide) ?_
  refine V_goto (tgt := 66) hX dX5_faultIn_62 (by decide) ?_
  exact hR _ _ _ _ (Option.some.inj hP) rfl dX5_faultIn_66
def P_X5_faultIn (F : Nat) (w : Wd) (a1 : Nat) : Option (Int32 × Wd) := lt (minI (gI w 1 1) 23 : Int32) (fun x2 => L_X5_faultIn_12 F a1 x2 (fun w  => (if (gI w 1 1) ≤ 23 then (if x2 = 0 then K_X5_faultIn_61 F a1  w  else lt (if (iremI x2 3) = 2 then (-1) else x2 : Int32) (fun x16 => some (x16, w))) else some (23, w))) F w 0)
set_option maxRecDepth 100000 in
set_option maxHeartbeats 4000000 in
theorem s_X5_faultIn {X : Cx} {S : Sx} {r : Int32 × Wd} {F : Nat} {w : Wd} {a1 : Nat} (ha1 : isX5 a1 = true) (hX : Ok X S cX5_faultIn RX5 4 rm_X5_faultIn) (hR : HRt X S cX5_faultIn .int r) (hP : P_X5_faultIn F w a1 = some r) : V X S w 0 [(0, rf S a1), (1, rf S 1)] [] := by
  unfold P_X5_faultIn at hP
  refine V_aload_n hX dX5_faultIn_0 1 rfl ?_
  refine V_getI hX fk_X5_30 tb_1 (fun _ _ _ => rfl) dX5_faultIn_1 ?_
  refine V_bipush (v := 23) hX dX5_faultIn_4 (by decide) ?_
  refine V_min hX mk_X5_33 ⟨Nat.le_of_ble_eq_true rfl, Nat.le_of_ble_eq_true rfl⟩ dX5_faultIn_6 ?_
  refine V_topi (fun x2 ex2 => ?_)
  replace hP := lt_r ex2 hP
  refine V_istore_n (lv' := [(2, .int x2), (0, rf S a1), (1, rf S 1)]) hX dX5_faultIn_9 (by decide) rfl ?_
  refine V_iconst (v := 0) hX dX5_faultIn_10 (by decide) ?_
  refine V_istore_n (lv' := [(3, .int 0), (2, .int x2), (0, rf S a1), (1, rf S 1)]) hX dX5_faultIn_11 (by decide) rfl ?_
  refine V_sub (lv' := [(0, rf S a1), (1, rf S 1), (2, .int x2), (3, .int 0)]) [2, 3, 1, 0] rfl ?_
  have k18 : ∀ (w : Wd)  , ((if (gI w 1 1) ≤ 23 then (if x2 = 0 then K_X5_faultIn_61 F a1  w  else lt (if (iremI x2 3) = 2 then (-1) else x2 : Int32) (fun x16 => some (x16, w))) else some (23, w))) = some r → V X S w 38 [(1, rf S 1), (2, .int x2)] [] := by
    intro w   hP
    refine V_aload_n hX dX5_faultIn_38 0 rfl ?_
    refine V_getI hX fk_X5_30 tb_1 (fun _ _ _ => rfl) dX5_faultIn_39 ?_
    refine V_bipush (v := 23) hX dX5_faultIn_42 (by decide) ?_
    refine V_icmp_le (tgt := 50) hX dX5_faultIn_44 (by decide) (fun hc12 => ?_) (fun hc12 => ?_)
    · replace hP := ite_t hc12 hP
      refine V_iload_n hX dX5_faultIn_50 1 rfl ?_
      refine V_if_eq (tgt := 61) hX dX5_faultIn_51 (by decide) (fun hc13 => ?_) (fun hc13 => ?_)
      · replace hP := ite_t hc13 hP
        refine V_sub (lv' := []) [] rfl ?_
        exact sK_X5_faultIn_61 hX hR ha1   hP
      · replace hP := ite_f hc13 hP
        refine V_iload_n hX dX5_faultIn_54 1 rfl ?_
        refine V_iconst (v := 3) hX dX5_faultIn_55 (by decide) ?_
        refine V_irem hX dX5_faultIn_56 (by decide) ?_
        refine V_iconst (v := 2) hX dX5_faultIn_57 (by decide) ?_
        have k17 : V X S w 66 [(1, rf S 1), (2, .int x2)] [.int (if (iremI x2 3) = 2 then (-1) else x2)] := by
          refine V_topi (fun x16 ex16 => ?_)
          replace hP := lt_r ex16 hP
          exact hR _ _ _ _ (Option.some.inj hP) rfl dX5_faultIn_66
        refine V_icmp_ne (tgt := 65) hX dX5_faultIn_58 (by decide) (fun hc15 => ?_) (fun hc15 => ?_)
        · refine V_iload_n hX dX5_faultIn_65 1 rfl ?_
          refine V_selF (c := (iremI x2 3) = 2) (a := (-1)) hc15 ?_
          exact k17
        · refine V_iconst (v := (-1)) hX dX5_faultIn_61 (by decide) ?_
          refine V_goto (tgt := 66) hX dX5_faultIn_62 (by decide) ?_
          refine V_selT (c := (iremI x2 3) = 2) (b := x2) hc15 ?_
          exact k17
    · replace hP := ite_f hc12 hP
      refine V_bipush (v := 23) hX dX5_faultIn_47 (by decide) ?_
      exact hR _ _ _ _ (Option.some.inj hP) rfl dX5_faultIn_49
  exact sL_X5_faultIn_12 hX hR ha1 k18 F _ _  hP
theorem c_X5_faultIn (l : Launch) (S : Sx) {r : Int32 × Wd} {F : Nat} {w : Wd} {a1 : Nat} (ha1 : isX5 a1 = true) (h : P_X5_faultIn F w a1 = some r) : Met l yX5_faultIn (wsg yX5_faultIn cX5_faultIn 4 (some .int)) rm_X5_faultIn (PC S w [rf S a1, rf S 1]) (QCi S r) 0 0 (Aw S) :=
  met_i (by decide) rfl (Nat.le_of_ble_eq_true rfl) ⟨rfl, rfl⟩ (fun X hX hR => s_X5_faultIn ha1 hX hR h)

-- MustNotStop$Roll: yX5_admit
abbrev rm_X5_admit : Room := { frames := 4, cells := 0, slots := 0, locals := 131 }
theorem nk_X5_admit : MNk yX5_admit RX5 1 := ⟨rfl, by decide, by decide, by decide +kernel⟩
def L_X5_admit_4 (F : Nat) (a1 : Nat) (k79 : Wd → Int32 → Option (Int32 × Wd)) : Nat → Wd → Int32 → Int32 → Option (Int32 × Wd)
  | 0, _, _, _ => none
  | n + 1, w, x2, x3 => (if (gI w 1 1) ≤ x3 then k79 w x2 else (if (gI w a1 2) < 0 then k79 w x2 else (if (8 : Int32) ≤ (gI w a1 2) then k79 w x2 else bnd (P_X8_number F w x3 1) (fun x9 w8 => gd (inB (gI w a1 2) 8) (lt (sI w8 (a1 + 1) (gI w a1 2).toNatClampNeg x9) (fun w11 => bnd (P_X8_number F w11 (x3 + 1) 1) (fun x13 w12 => gd (inB (gI w11 a1 2) 8) (lt (sI w12 (a1 + 2) (gI w11 a1 2).toNatClampNeg x13) (fun w15 => lt (sI w15 a1 2 ((gI w15 a1 2) + 1)) (fun w16 => lt (x2 + 1 : Int32) (fun x17 => lt (x3 + 3 : Int32) (fun x18 => L_X5_admit_4 F a1 k79 n w16 x17 x18))))))))))))
set_option maxRecDepth 100000 in
set_option maxHeartbeats 4000000 in
theorem sL_X5_admit_4 {X : Cx} {S : Sx} {r : Int32 × Wd} {F : Nat} {a1 : Nat} {k79 : Wd → Int32 → Option (Int32 × Wd)} (hX : Ok X S cX5_admit RX5 4 rm_X5_admit) (hR : HRt X S cX5_admit .int r) (ha1 : isX5 a1 = true) (hk79 : ∀ (w : Wd) (x4 : Int32) , k79 w x4 = some r → V X S w 79 [(2, .int x4)] []) : ∀ (n : Nat) (w : Wd) (x2 : Int32) (x3 : Int32) , L_X5_admit_4 F a1 k79 n w x2 x3 = some r → V X S w 4 [(0, rf S a1), (1, rf S 1), (2, .int x2), (3, .int x3)] [] := by
  intro n
  induction n with
  | zero =>
    intro w x2 x3  hP
    exact nn hP
  | succ n ih =>
    intro w x2 x3  hP
    rw [L_X5_admit_4] at hP
    refine V_iload_n hX dX5_admit_4 3 rfl ?_
    refine V_aload_n hX dX5_admit_5 1 rfl ?_
    refine V_getI hX fk_X5_30 tb_1 (fun _ _ _ => rfl) dX5_admit_6 ?_
    refine V_icmp_ge (tgt := 79) hX dX5_admit_9 (by decide) (fun hc5 => ?_) (fun hc5 => ?_)
    · replace hP := ite_t hc5 hP
      refine V_sub (lv' := [(2, .int x2)]) [2] rfl ?_
      exact hk79 _ _  hP
    · replace hP := ite_f hc5 hP
      refine V_aload_n hX dX5_admit_12 0 rfl ?_
      refine V_getI hX fk_X5_18 (tb_X5 ha1) (fun _ _ _ => rfl) dX5_admit_13 ?_
      refine V_if_lt (tgt := 79) hX dX5_admit_16 (by decide) (fun hc6 => ?_) (fun hc6 => ?_)
      · replace hP := ite_t hc6 hP
        refine V_sub (lv' := [(2, .int x2)]) [2] rfl ?_
        exact hk79 _ _  hP
      · replace hP := ite_f hc6 hP
        refine V_aload_n hX dX5_admit_19 0 rfl ?_
        refine V_getI hX fk_X5_18 (tb_X5 ha1) (fun _ _ _ => rfl) dX5_admit_20 ?_
        refine V_bipush (v := 8) hX dX5_admit_23 (by decide) ?_
        refine V_icmp_ge (tgt := 79) hX dX5_admit_25 (by decide) (fun hc7 => ?_) (fun hc7 => ?_)
        · replace hP := ite_t hc7 hP
          refine V_sub (lv' := [(2, .int x2)]) [2] rfl ?_
          exact hk79 _ _  hP
        · replace hP := ite_f hc7 hP
          refine V_aload_n hX dX5_admit_28 0 rfl ?_
          refine V_getF (j := a1 + 1) hX fk_X5_9 (tb_X5 ha1) (fun _ _ _ => rfl) dX5_admit_29 ?_
          refine V_aload_n hX dX5_admit_32 0 rfl ?_
          refine V_getI hX fk_X5_18 (tb_X5 ha1) (fun _ _ _ => rfl) dX5_admit_33 ?_
          refine V_aload_n hX dX5_admit_36 1 rfl ?_
          refine V_iload_n hX dX5_admit_37 3 rfl ?_
          refine V_iconst (v := 1) hX dX5_admit_38 (by decide) ?_
          obtain ⟨x9, w8, hcw8, hP⟩ := bnd_e hP
          refine V_callVi (As := [.int x3, .int 1]) (rest := [.int (gI w a1 2), rf S (a1 + 1)]) hX mk_X5_46 nk_X8_number (fun l => c_X8_number l S  hcw8) tb_1 rfl ⟨rfl, rfl, Nat.le_of_ble_eq_true rfl, Nat.le_of_ble_eq_true rfl⟩ rfl rfl (Nat.le_of_ble_eq_true rfl) dX5_admit_39 ?_
          obtain ⟨hi10, hP⟩ := gd_e hP
          refine V_iast hX (tb_X5_1 ha1) hi10 dX5_admit_42 (fun w11 ew11 => ?_)
          replace hP := lt_r ew11 hP
          refine V_aload_n hX dX5_admit_43 0 rfl ?_
          refine V_getF (j := a1 + 2) hX fk_X5_15 (tb_X5 ha1) (fun _ _ _ => rfl) dX5_admit_44 ?_
          refine V_aload_n hX dX5_admit_47 0 rfl ?_
          refine V_getI hX fk_X5_18 (tb_X5 ha1) (fun _ _ _ => rfl) dX5_admit_48 ?_
          refine V_aload_n hX dX5_admit_51 1 rfl ?_
          refine V_iload_n hX dX5_admit_52 3 rfl ?_
          refine V_iconst (v := 1) hX dX5_admit_53 (by decide) ?_
          refine V_iadd hX dX5_admit_54 ?_
          refine V_iconst (v := 1) hX dX5_admit_55 (by decide) ?_
          obtain ⟨x13, w12, hcw12, hP⟩ := bnd_e hP
          refine V_callVi (As := [.int (x3 + 1), .int 1]) (rest := [.int (gI w11 a1 2), rf S (a1 + 2)]) hX mk_X5_46 nk_X8_number (fun l => c_X8_number l S  hcw12) tb_1 rfl ⟨rfl, rfl, Nat.le_of_ble_eq_true rfl, Nat.le_of_ble_eq_true rfl⟩ rfl rfl (Nat.le_of_ble_eq_true rfl) dX5_admit_56 ?_
          obtain ⟨hi14, hP⟩ := gd_e hP
          refine V_iast hX (tb_X5_2 ha1) hi14 dX5_admit_59 (fun w15 ew15 => ?_)
          replace hP := lt_r ew15 hP
          refine V_aload_n hX dX5_admit_60 0 rfl ?_
          refine V_dup hX dX5_admit_61 rfl ?_
          refine V_getI hX fk_X5_18 (tb_X5 ha1) (fun _ _ _ => rfl) dX5_admit_62 ?_
          refine V_iconst (v := 1) hX dX5_admit_65 (by decide) ?_
          refine V_iadd hX dX5_admit_66 ?_
          refine V_putI hX fw_X5_18 (tb_X5 ha1) (fun _ _ _ => ⟨Nat.le_of_ble_eq_true rfl, rfl⟩) dX5_admit_67 (fun w16 ew16 => ?_)
          replace hP := lt_r ew16 hP
          obtain ⟨x17, ex17⟩ : ∃ y : Int32, y = x2 + 1 := ⟨_, rfl⟩
          replace hP := lt_r ex17 hP
          refine V_iinc (v := x17) (lv' := [(2, .int x17), (0, rf S a1), (1, rf S 1), (3, .int x3)]) hX dX5_admit_70 (j := 2) rfl (by decide) (by rw [ex17]; rfl) rfl ?_
          obtain ⟨x18, ex18⟩ : ∃ y : Int32, y = x3 + 3 := ⟨_, rfl⟩
          replace hP := lt_r ex18 hP
          refine V_iinc (v := x18) (lv' := [(3, .int x18), (2, .int x17), (0, rf S a1), (1, rf S 1)]) hX dX5_admit_73 (j := 3) rfl (by decide) (by rw [ex18]; rfl) rfl ?_
          refine V_goto (tgt := 4) hX dX5_admit_76 (by decide) ?_
          refine V_sub (lv' := [(0, rf S a1), (1, rf S 1), (2, .int x17), (3, .int x18)]) [2, 3, 1, 0] rfl ?_
          exact ih _ _ _  hP
def P_X5_admit (F : Nat) (w : Wd) (a1 : Nat) : Option (Int32 × Wd) := L_X5_admit_4 F a1 (fun w x4 => some (x4, w)) F w 0 0
set_option maxRecDepth 100000 in
set_option maxHeartbeats 4000000 in
theorem s_X5_admit {X : Cx} {S : Sx} {r : Int32 × Wd} {F : Nat} {w : Wd} {a1 : Nat} (ha1 : isX5 a1 = true) (hX : Ok X S cX5_admit RX5 4 rm_X5_admit) (hR : HRt X S cX5_admit .int r) (hP : P_X5_admit F w a1 = some r) : V X S w 0 [(0, rf S a1), (1, rf S 1)] [] := by
  unfold P_X5_admit at hP
  refine V_iconst (v := 0) hX dX5_admit_0 (by decide) ?_
  refine V_istore_n (lv' := [(2, .int 0), (0, rf S a1), (1, rf S 1)]) hX dX5_admit_1 (by decide) rfl ?_
  refine V_iconst (v := 0) hX dX5_admit_2 (by decide) ?_
  refine V_istore_n (lv' := [(3, .int 0), (2, .int 0), (0, rf S a1), (1, rf S 1)]) hX dX5_admit_3 (by decide) rfl ?_
  refine V_sub (lv' := [(0, rf S a1), (1, rf S 1), (2, .int 0), (3, .int 0)]) [2, 3, 1, 0] rfl ?_
  have k19 : ∀ (w : Wd) (x4 : Int32) , (some (x4, w)) = some r → V X S w 79 [(2, .int x4)] [] := by
    intro w x4  hP
    refine V_iload_n hX dX5_admit_79 0 rfl ?_
    exact hR _ _ _ _ (Option.some.inj hP) rfl dX5_admit_80
  exact sL_X5_admit_4 hX hR ha1 k19 F _ _ _  hP
theorem c_X5_admit (l : Launch) (S : Sx) {r : Int32 × Wd} {F : Nat} {w : Wd} {a1 : Nat} (ha1 : isX5 a1 = true) (h : P_X5_admit F w a1 = some r) : Met l yX5_admit (wsg yX5_admit cX5_admit 4 (some .int)) rm_X5_admit (PC S w [rf S a1, rf S 1]) (QCi S r) 0 0 (Aw S) :=
  met_i (by decide) rfl (Nat.le_of_ble_eq_true rfl) ⟨rfl, rfl⟩ (fun X hX hR => s_X5_admit ha1 hX hR h)

-- MustNotStop$Roll.hearing(I)I
abbrev rm_X5_hearing : Room := { frames := 3, cells := 0, slots := 0, locals := 106 }
theorem nk_X5_hearing : MNk yX5_hearing RX5 1 := ⟨rfl, by decide, by decide, by decide +kernel⟩
def K_X5_hearing_33 (F : Nat) (a1 : Nat) (x2 : Int32) (k39 : Wd → Int32 → Option (Int32 × Wd)) (rc : Wd → Int32 → Int32 → Option (Int32 × Wd)) (w : Wd) (x10 : Int32) (x11 : Int32) : Option (Int32 × Wd) := lt (x11 + 1 : Int32) (fun x12 => rc w x10 x12)
set_option maxRecDepth 100000 in
set_option maxHeartbeats 4000000 in
theorem sK_X5_hearing_33 {X : Cx} {S : Sx} {r : Int32 × Wd} {F : Nat} {a1 : Nat} {x2 : Int32} {k39 : Wd → Int32 → Option (Int32 × Wd)} {rc : Wd → Int32 → Int32 → Option (Int32 × Wd)} {w : Wd} {x10 : Int32} {x11 : Int32} (hX : Ok X S cX5_hearing RX5 4 rm_X5_hearing) (hR : HRt X S cX5_hearing .int r) (ha1 : isX5 a1 = true) (hk39 : ∀ (w : Wd) (x5 : Int32) , k39 w x5 = some r → V X S w 39 [(2, .int x5)] []) (hrc : ∀ (w : Wd) (x3 : Int32) (x4 : Int32) , rc w x3 x4 = some r → V X S w 4 [(0, rf S a1), (1, .int x2), (2, .int x3), (3, .int x4)] [])  (hP : K_X5_hearing_33 F a1 x2 k39 rc w x10 x11 = some r) : V X S w 33 [(0, rf S a1), (1, .int x2), (2, .int x10), (3, .int x11)] [] := by
  unfold K_X5_hearing_33 at hP
  obtain ⟨x12, ex12⟩ : ∃ y : Int32, y = x11 + 1 := ⟨_, rfl⟩
  replace hP := lt_r ex12 hP
  refine V_iinc (v := x12) (lv' := [(3, .int x12), (0, rf S a1), (1, .int x2), (2, .int x10)]) hX dX5_hearing_33 (j := 3) rfl (by decide) (by rw [ex12]; rfl) rfl ?_
  refine V_goto (tgt := 4) hX dX5_hearing_36 (by decide) ?_
  refine V_sub (lv' := [(0, rf S a1), (1, .int x2), (2, .int x10), (3, .int x12)]) [1, 2, 3, 0] rfl ?_
  exact hrc _ _ _  hP
def L_X5_hearing_4 (F : Nat) (a1 : Nat) (x2 : Int32) (k39 : Wd → Int32 → Option (Int32 × Wd)) : Nat → Wd → Int32 → Int32 → Option (Int32 × Wd)
  | 0, _, _, _ => none
  | n + 1, w, x3, x4 => (if (8 : Int32) ≤ x4 then k39 w x3 else bnd (P_X5_has F w a1 x4) (fun x8 w7 => (if x8 = 0 then K_X5_hearing_33 F a1 x2 k39 ((L_X5_hearing_4 F a1 x2 k39 n)) w7 x3 x4 else bnd (P_X5_firstOf F w7 a1 x4) (fun x14 w13 => (if x2 < x14 then K_X5_hearing_33 F a1 x2 k39 ((L_X5_hearing_4 F a1 x2 k39 n)) w13 x3 x4 else lt (x3 ||| (ishlI 1 x4) : Int32) (fun x16 => K_X5_hearing_33 F a1 x2 k39 ((L_X5_hearing_4 F a1 x2 k39 n)) w13 x16 x4))))))
set_option maxRecDepth 100000 in
set_option maxHeartbeats 4000000 in
theorem sL_X5_hearing_4 {X : Cx} {S : Sx} {r : Int32 × Wd} {F : Nat} {a1 : Nat} {x2 : Int32} {k39 : Wd → Int32 → Option (Int32 × Wd)} (hX : Ok X S cX5_hearing RX5 4 rm_X5_hearing) (hR : HRt X S cX5_hearing .int r) (ha1 : isX5 a1 = true) (hk39 : ∀ (w : Wd) (x5 : Int32) , k39 w x5 = some r → V X S w 39 [(2, .int x5)] []) : ∀ (n : Nat) (w : Wd) (x3 : Int32) (x4 : Int32) , L_X5_hearing_4 F a1 x2 k39 n w x3 x4 = some r → V X S w 4 [(0, rf S a1), (1, .int x2), (2, .int x3), (3, .int x4)] [] := by
  intro n
  induction n with
  | zero =>
    intro w x3 x4  hP
    exact nn hP
  | succ n ih =>
    intro w x3 x4  hP
    rw [L_X5_hearing_4] at hP
    refine V_iload_n hX dX5_hearing_4 3 rfl ?_
    refine V_bipush (v := 8) hX dX5_hearing_5 (by decide) ?_
    refine V_icmp_ge (tgt := 39) hX dX5_hearing_7 (by decide) (fun hc6 => ?_) (fun hc6 => ?_)
    · replace hP := ite_t hc6 hP
      refine V_sub (lv' := [(2, .int x3)]) [2] rfl ?_
      exact hk39 _ _  hP
    · replace hP := ite_f hc6 hP
      refine V_aload_n hX dX5_hearing_10 0 rfl ?_
      refine V_iload_n hX dX5_hearing_11 3 rfl ?_
      obtain ⟨x8, w7, hcw7, hP⟩ := bnd_e hP
      refine V_callVi (As := [.int x4]) (rest := []) hX mk_X5_22 nk_X5_has (fun l => c_X5_has l S ha1 hcw7) (tb_X5 ha1) rfl ⟨rfl, rfl, Nat.le_of_ble_eq_true rfl, Nat.le_of_ble_eq_true rfl⟩ rfl rfl (Nat.le_of_ble_eq_true rfl) dX5_hearing_12 ?_
      refine V_if_eq (tgt := 33) hX dX5_hearing_15 (by decide) (fun hc9 => ?_) (fun hc9 => ?_)
      · replace hP := ite_t hc9 hP
        exact sK_X5_hearing_33 hX hR ha1 hk39 ih  hP
      · replace hP := ite_f hc9 hP
        refine V_aload_n hX dX5_hearing_18 0 rfl ?_
        refine V_iload_n hX dX5_hearing_19 3 rfl ?_
        obtain ⟨x14, w13, hcw13, hP⟩ := bnd_e hP
        refine V_callVi (As := [.int x4]) (rest := []) hX mk_X5_49 nk_X5_firstOf (fun l => c_X5_firstOf l S ha1 hcw13) (tb_X5 ha1) rfl ⟨rfl, rfl, Nat.le_of_ble_eq_true rfl, Nat.le_of_ble_eq_true rfl⟩ rfl rfl (Nat.le_of_ble_eq_true rfl) dX5_hearing_20 ?_
        refine V_iload_n hX dX5_hearing_23 1 rfl ?_
        refine V_icmp_gt (tgt := 33) hX dX5_hearing_24 (by decide) (fun hc15 => ?_) (fun hc15 => ?_)
        · replace hP := ite_t hc15 hP
          exact sK_X5_hearing_33 hX hR ha1 hk39 ih  hP
        · replace hP := ite_f hc15 hP
          refine V_iload_n hX dX5_hearing_27 2 rfl ?_
          refine V_iconst (v := 1) hX dX5_hearing_28 (by decide) ?_
          refine V_iload_n hX dX5_hearing_29 3 rfl ?_
          refine V_ishl hX dX5_hearing_30 ?_
          refine V_ior hX dX5_hearing_31 ?_
          refine V_topi (fun x16 ex16 => ?_)
          replace hP := lt_r ex16 hP
          refine V_istore_n (lv' := [(2, .int x16), (0, rf S a1), (1, .int x2), (3, .int x4)]) hX dX5_hearing_32 (by decide) rfl ?_
          refine V_sub (lv' := [(0, rf S a1), (1, .int x2), (2, .int x16), (3, .int x4)]) [1, 2, 0, 3] rfl ?_
          exact sK_X5_hearing_33 hX hR ha1 hk39 ih  hP
def P_X5_hearing (F : Nat) (w : Wd) (a1 : Nat) (x2 : Int32) : Option (Int32 × Wd) := L_X5_hearing_4 F a1 x2 (fun w x5 => some (x5, w)) F w 0 0
set_option maxRecDepth 100000 in
set_option maxHeartbeats 4000000 in
theorem s_X5_hearing {X : Cx} {S : Sx} {r : Int32 × Wd} {F : Nat} {w : Wd} {a1 : Nat} {x2 : Int32} (ha1 : isX5 a1 = true) (hX : Ok X S cX5_hearing RX5 4 rm_X5_hearing) (hR : HRt X S cX5_hearing .int r) (hP : P_X5_hearing F w a1 x2 = some r) : V X S w 0 [(0, rf S a1), (1, .int x2)] [] := by
  unfold P_X5_hearing at hP
  refine V_iconst (v := 0) hX dX5_hearing_0 (by decide) ?_
  refine V_istore_n (lv' := [(2, .int 0), (0, rf S a1), (1, .int x2)]) hX dX5_hearing_1 (by decide) rfl ?_
  refine V_iconst (v := 0) hX dX5_hearing_2 (by decide) ?_
  refine V_istore_n (lv' := [(3, .int 0), (2, .int 0), (0, rf S a1), (1, .int x2)]) hX dX5_hearing_3 (by decide) rfl ?_
  refine V_sub (lv' := [(0, rf S a1), (1, .int x2), (2, .int 0), (3, .int 0)]) [2, 3, 1, 0] rfl ?_
  have k17 : ∀ (w : Wd) (x5 : Int32) , (some (x5, w)) = some r → V X S w 39 [(2, .int x5)] [] := by
    intro w x5  hP
    refine V_iload_n hX dX5_hearing_39 0 rfl ?_
    exact hR _ _ _ _ (Option.some.inj hP) rfl dX5_hearing_40
  exact sL_X5_hearing_4 hX hR ha1 k17 F _ _ _  hP
theorem c_X5_hearing (l : Launch) (S : Sx) {r : Int32 × Wd} {F : Nat} {w : Wd} {a1 : Nat} {x2 : Int32} (ha1 : isX5 a1 = true) (h : P_X5_hearing F w a1 x2 = some r) : Met l yX5_hearing (wsg yX5_hearing cX5_hearing 4 (some .int)) rm_X5_hearing (PC S w [rf S a1, .int x2]) (QCi S r) 0 0 (Aw S) :=
  met_i (by decide) rfl (Nat.le_of_ble_eq_true rfl) ⟨rfl, rfl⟩ (fun X hX hR => s_X5_hearing ha1 hX hR h)

-- MustNotStop$Roll.moved(I)I
abbrev rm_X5_moved : Room := { frames := 3, cells := 0, slots := 0, locals := 106 }
theorem nk_X5_moved : MNk yX5_moved RX5 1 := ⟨rfl, by decide, by decide, by decide +kernel⟩
def K_X5_moved_43 (F : Nat) (a1 : Nat) (x2 : Int32) (k49 : Wd → Int32 → Option (Int32 × Wd)) (rc : Wd → Int32 → Int32 → Option (Int32 × Wd)) (w : Wd) (x10 : Int32) (x11 : Int32) : Option (Int32 × Wd) := lt (x11 + 1 : Int32) (fun x12 => rc w x10 x12)
set_option maxRecDepth 100000 in
set_option maxHeartbeats 4000000 in
theorem sK_X5_moved_43 {X : Cx} {S : Sx} {r : Int32 × Wd} {F : Nat} {a1 : Nat} {x2 : Int32} {k49 : Wd → Int32 → Option (Int32 × Wd)} {rc : Wd → Int32 → Int32 → Option (Int32 × Wd)} {w : Wd} {x10 : Int32} {x11 : Int32} (hX : Ok X S cX5_moved RX5 5 rm_X5_moved) (hR : HRt X S cX5_moved .int r) (ha1 : isX5 a1 = true) (hk49 : ∀ (w : Wd) (x5 : Int32) , k49 w x5 = some r → V X S w 49 [(2, .int x5)] []) (hrc : ∀ (w : Wd) (x3 : Int32) (x4 : Int32) , rc w x3 x4 = some r → V X S w 4 [(0, rf S a1), (1, .int x2), (2, .int x3), (3, .int x4)] [])  (hP : K_X5_moved_43 F a1 x2 k49 rc w x10 x11 = some r) : V X S w 43 [(0, rf S a1), (1, .int x2), (2, .int x10), (3, .int x11)] [] := by
  unfold K_X5_moved_43 at hP
  obtain ⟨x12, ex12⟩ : ∃ y : Int32, y = x11 + 1 := ⟨_, rfl⟩
  replace hP := lt_r ex12 hP
  refine V_iinc (v := x12) (lv' := [(3, .int x12), (0, rf S a1), (1, .int x2), (2, .int x10)]) hX dX5_moved_43 (j := 3) rfl (by decide) (by rw [ex12]; rfl) rfl ?_
  refine V_goto (tgt := 4) hX dX5_moved_46 (by decide) ?_
  refine V_sub (lv' := [(0, rf S a1), (1, .int x2), (2, .int x10), (3, .int x12)]) [1, 2, 3, 0] rfl ?_
  exact hrc _ _ _  hP
def L_X5_moved_4 (F : Nat) (a1 : Nat) (x2 : Int32) (k49 : Wd → Int32 → Option (Int32 × Wd)) : Nat → Wd → Int32 → Int32 → Option (Int32 × Wd)
  | 0, _, _, _ => none
  | n + 1, w, x3, x4 => (if (8 : Int32) ≤ x4 then k49 w x3 else bnd (P_X5_secondOf F w a1 x4) (fun x8 w7 => (if x8 = 0 then K_X5_moved_43 F a1 x2 k49 ((L_X5_moved_4 F a1 x2 k49 n)) w7 x3 x4 else bnd (P_J6_bitCount_0f7a4 F w7 (x2 &&& ((ishlI 1 x4) ^^^ ((-1))))) (fun x14 w13 => (if x14 < x8 then K_X5_moved_43 F a1 x2 k49 ((L_X5_moved_4 F a1 x2 k49 n)) w13 x3 x4 else lt (x3 ||| (ishlI 1 x4) : Int32) (fun x16 => K_X5_moved_43 F a1 x2 k49 ((L_X5_moved_4 F a1 x2 k49 n)) w13 x16 x4))))))
set_option maxRecDepth 100000 in
set_option maxHeartbeats 4000000 in
theorem sL_X5_moved_4 {X : Cx} {S : Sx} {r : Int32 × Wd} {F : Nat} {a1 : Nat} {x2 : Int32} {k49 : Wd → Int32 → Option (Int32 × Wd)} (hX : Ok X S cX5_moved RX5 5 rm_X5_moved) (hR : HRt X S cX5_moved .int r) (ha1 : isX5 a1 = true) (hk49 : ∀ (w : Wd) (x5 : Int32) , k49 w x5 = some r → V X S w 49 [(2, .int x5)] []) : ∀ (n : Nat) (w : Wd) (x3 : Int32) (x4 : Int32) , L_X5_moved_4 F a1 x2 k49 n w x3 x4 = some r → V X S w 4 [(0, rf S a1), (1, .int x2), (2, .int x3), (3, .int x4)] [] := by
  intro n
  induction n with
  | zero =>
    intro w x3 x4  hP
    exact nn hP
  | succ n ih =>
    intro w x3 x4  hP
    rw [L_X5_moved_4] at hP
    refine V_iload_n hX dX5_moved_4 3 rfl ?_
    refine V_bipush (v := 8) hX dX5_moved_5 (by decide) ?_
    refine V_icmp_ge (tgt := 49) hX dX5_moved_7 (by decide) (fun hc6 => ?_) (fun hc6 => ?_)
    · replace hP := ite_t hc6 hP
      refine V_sub (lv' := [(2, .int x3)]) [2] rfl ?_
      exact hk49 _ _  hP
    · replace hP := ite_f hc6 hP
      refine V_aload_n hX dX5_moved_10 0 rfl ?_
      refine V_iload_n hX dX5_moved_11 3 rfl ?_
      obtain ⟨x8, w7, hcw7, hP⟩ := bnd_e hP
      refine V_callVi (As := [.int x4]) (rest := []) hX mk_X5_26 nk_X5_secondOf (fun l => c_X5_secondOf l S ha1 hcw7) (tb_X5 ha1) rfl ⟨rfl, rfl, Nat.le_of_ble_eq_true rfl, Nat.le_of_ble_eq_true rfl⟩ rfl rfl (Nat.le_of_ble_eq_true rfl) dX5_moved_12 ?_
      refine V_istore (lv' := [(4, .int x8), (0, rf S a1), (1, .int x2), (2, .int x3), (3, .int x4)]) hX dX5_moved_15 (by decide) rfl ?_
      refine V_iload hX dX5_moved_17 0 rfl ?_
      refine V_if_eq (tgt := 43) hX dX5_moved_19 (by decide) (fun hc9 => ?_) (fun hc9 => ?_)
      · replace hP := ite_t hc9 hP
        refine V_sub (lv' := [(0, rf S a1), (1, .int x2), (2, .int x3), (3, .int x4)]) [1, 2, 3, 4] rfl ?_
        exact sK_X5_moved_43 hX hR ha1 hk49 ih  hP
      · replace hP := ite_f hc9 hP
        refine V_iload_n hX dX5_moved_22 2 rfl ?_
        refine V_iconst (v := 1) hX dX5_moved_23 (by decide) ?_
        refine V_iload_n hX dX5_moved_24 4 rfl ?_
        refine V_ishl hX dX5_moved_25 ?_
        refine V_iconst (v := (-1)) hX dX5_moved_26 (by decide) ?_
        refine V_ixor hX dX5_moved_27 ?_
        refine V_iand hX dX5_moved_28 ?_
        obtain ⟨x14, w13, hcw13, hP⟩ := bnd_e hP
        refine V_callSi (As := [.int (x2 &&& ((ishlI 1 x4) ^^^ ((-1))))]) (rest := []) hX mk_X5_55 nk_J6_bitCount_0f7a4 (fun l => c_J6_bitCount_0f7a4 l S  hcw13) ⟨rfl, rfl, Nat.le_of_ble_eq_true rfl, Nat.le_of_ble_eq_true rfl⟩ rfl rfl (Nat.le_of_ble_eq_true rfl) dX5_moved_29 ?_
        refine V_iload hX dX5_moved_32 0 rfl ?_
        refine V_icmp_lt (tgt := 43) hX dX5_moved_34 (by decide) (fun hc15 => ?_) (fun hc15 => ?_)
        · replace hP := ite_t hc15 hP
          refine V_sub (lv' := [(0, rf S a1), (1, .int x2), (2, .int x3), (3, .int x4)]) [1, 2, 3, 4] rfl ?_
          exact sK_X5_moved_43 hX hR ha1 hk49 ih  hP
        · replace hP := ite_f hc15 hP
          refine V_iload_n hX dX5_moved_37 3 rfl ?_
          refine V_iconst (v := 1) hX dX5_moved_38 (by decide) ?_
          refine V_iload_n hX dX5_moved_39 4 rfl ?_
          refine V_ishl hX dX5_moved_40 ?_
          refine V_ior hX dX5_moved_41 ?_
          refine V_topi (fun x16 ex16 => ?_)
          replace hP := lt_r ex16 hP
          refine V_istore_n (lv' := [(2, .int x16), (4, .int x8), (0, rf S a1), (1, .int x2), (3, .int x4)]) hX dX5_moved_42 (by decide) rfl ?_
          refine V_sub (lv' := [(0, rf S a1), (1, .int x2), (2, .int x16), (3, .int x4)]) [2, 3, 0, 4] rfl ?_
          exact sK_X5_moved_43 hX hR ha1 hk49 ih  hP
def P_X5_moved (F : Nat) (w : Wd) (a1 : Nat) (x2 : Int32) : Option (Int32 × Wd) := L_X5_moved_4 F a1 x2 (fun w x5 => some (x5, w)) F w 0 0
set_option maxRecDepth 100000 in
set_option maxHeartbeats 4000000 in
theorem s_X5_moved {X : Cx} {S : Sx} {r : Int32 × Wd} {F : Nat} {w : Wd} {a1 : Nat} {x2 : Int32} (ha1 : isX5 a1 = true) (hX : Ok X S cX5_moved RX5 5 rm_X5_moved) (hR : HRt X S cX5_moved .int r) (hP : P_X5_moved F w a1 x2 = some r) : V X S w 0 [(0, rf S a1), (1, .int x2)] [] := by
  unfold P_X5_moved at hP
  refine V_iconst (v := 0) hX dX5_moved_0 (by decide) ?_
  refine V_istore_n (lv' := [(2, .int 0), (0, rf S a1), (1, .int x2)]) hX dX5_moved_1 (by decide) rfl ?_
  refine V_iconst (v := 0) hX dX5_moved_2 (by decide) ?_
  refine V_istore_n (lv' := [(3, .int 0), (2, .int 0), (0, rf S a1), (1, .int x2)]) hX dX5_moved_3 (by decide) rfl ?_
  refine V_sub (lv' := [(0, rf S a1), (1, .int x2), (2, .int 0), (3, .int 0)]) [2, 3, 1, 0] rfl ?_
  have k17 : ∀ (w : Wd) (x5 : Int32) , (some (x5, w)) = some r → V X S w 49 [(2, .int x5)] [] := by
    intro w x5  hP
    refine V_iload_n hX dX5_moved_49 0 rfl ?_
    exact hR _ _ _ _ (Option.some.inj hP) rfl dX5_moved_50
  exact sL_X5_moved_4 hX hR ha1 k17 F _ _ _  hP
theorem c_X5_moved (l : Launch) (S : Sx) {r : Int32 × Wd} {F : Nat} {w : Wd} {a1 : Nat} {x2 : Int32} (ha1 : isX5 a1 = true) (h : P_X5_moved F w a1 x2 = some r) : Met l yX5_moved (wsg yX5_moved cX5_moved 5 (some .int)) rm_X5_moved (PC S w [rf S a1, .int x2]) (QCi S r) 0 0 (Aw S) :=
  met_i (by decide) rfl (Nat.le_of_ble_eq_true rfl) ⟨rfl, rfl⟩ (fun X hX hR => s_X5_moved ha1 hX hR h)

-- MustNotStop$Row.clear()V
abbrev rm_X7_clear : Room := { frames := 1, cells := 0, slots := 0, locals := 64 }
theorem nk_X7_clear : MNk yX7_clear RX7 0 := ⟨rfl, by decide, by decide, by decide +kernel⟩
def P_X7_clear (F : Nat) (w : Wd)  : Option (Wd) := lt (sI w 3 1 0) (fun w1 => some w1)
set_option maxRecDepth 100000 in
set_option maxHeartbeats 4000000 in
theorem s_X7_clear {X : Cx} {S : Sx} {r : Wd} {F : Nat} {w : Wd}   (hX : Ok X S cX7_clear RX7 1 rm_X7_clear) (hR : HRv X S cX7_clear r) (hP : P_X7_clear F w  = some r) : V X S w 0 [(0, rf S 3)] [] := by
  unfold P_X7_clear at hP
  refine V_aload_n hX dX7_clear_0 0 rfl ?_
  refine V_iconst (v := 0) hX dX7_clear_1 (by decide) ?_
  refine V_putI hX fw_X7_13 tb_3 (fun _ _ _ => ⟨Nat.le_of_ble_eq_true rfl, rfl⟩) dX7_clear_2 (fun w1 ew1 => ?_)
  replace hP := lt_r ew1 hP
  exact hR _ _ _ (Option.some.inj hP) dX7_clear_5
theorem c_X7_clear (l : Launch) (S : Sx) {r : Wd} {F : Nat} {w : Wd}   (h : P_X7_clear F w  = some r) : Met l yX7_clear (wsg yX7_clear cX7_clear 1 none) rm_X7_clear (PC S w [rf S 3]) (QCv S r) 0 0 (Aw S) :=
  met_v (by decide) rfl (Nat.le_of_ble_eq_true rfl) ⟨rfl, rfl⟩ (fun X hX hR => s_X7_clear  hX hR h)

-- MustNotStop$Text.add(I)V
abbrev rm_X8_add : Room := { frames := 1, cells := 0, slots := 0, locals := 64 }
theorem nk_X8_add : MNk yX8_add RX8 1 := ⟨rfl, by decide, by decide, by decide +kernel⟩
def P_X8_add (F : Nat) (w : Wd) (x1 : Int32) : Option (Wd) := (if (gI w 1 1) < 0 then some w else (if (80 : Int32) ≤ (gI w 1 1) then some w else gd (inB (gI w 1 1) 80) (lt (sI w 2 (gI w 1 1).toNatClampNeg x1) (fun w5 => lt (sI w5 1 1 ((gI w5 1 1) + 1)) (fun w6 => some w6)))))
set_option maxRecDepth 100000 in
set_option maxHeartbeats 4000000 in
theorem s_X8_add {X : Cx} {S : Sx} {r : Wd} {F : Nat} {w : Wd} {x1 : Int32}  (hX : Ok X S cX8_add RX8 2 rm_X8_add) (hR : HRv X S cX8_add r) (hP : P_X8_add F w x1 = some r) : V X S w 0 [(0, rf S 1), (1, .int x1)] [] := by
  unfold P_X8_add at hP
  refine V_aload_n hX dX8_add_0 0 rfl ?_
  refine V_getI hX fk_X8_15 tb_1 (fun _ _ _ => rfl) dX8_add_1 ?_
  refine V_if_lt (tgt := 39) hX dX8_add_4 (by decide) (fun hc2 => ?_) (fun hc2 => ?_)
  · replace hP := ite_t hc2 hP
    exact hR _ _ _ (Option.some.inj hP) dX8_add_39
  · replace hP := ite_f hc2 hP
    refine V_aload_n hX dX8_add_7 0 rfl ?_
    refine V_getI hX fk_X8_15 tb_1 (fun _ _ _ => rfl) dX8_add_8 ?_
    refine V_aload_n hX dX8_add_11 0 rfl ?_
    refine V_getF (j := 2) hX fk_X8_9 tb_1 (fun _ _ _ => rfl) dX8_add_12 ?_
    refine V_alenI (v := 80) hX tb_2 (by decide) dX8_add_15 ?_
    refine V_icmp_ge (tgt := 39) hX dX8_add_16 (by decide) (fun hc3 => ?_) (fun hc3 => ?_)
    · replace hP := ite_t hc3 hP
      exact hR _ _ _ (Option.some.inj hP) dX8_add_39
    · replace hP := ite_f hc3 hP
      refine V_aload_n hX dX8_add_19 0 rfl ?_
      refine V_getF (j := 2) hX fk_X8_9 tb_1 (fun _ _ _ => rfl) dX8_add_20 ?_
      refine V_aload_n hX dX8_add_23 0 rfl ?_
      refine V_getI hX fk_X8_15 tb_1 (fun _ _ _ => rfl) dX8_add_24 ?_
      refine V_iload_n hX dX8_add_27 1 rfl ?_
      obtain ⟨hi4, hP⟩ := gd_e hP
      refine V_iast hX tb_2 hi4 dX8_add_28 (fun w5 ew5 => ?_)
      replace hP := lt_r ew5 hP
      refine V_aload_n hX dX8_add_29 0 rfl ?_
      refine V_dup hX dX8_add_30 rfl ?_
      refine V_getI hX fk_X8_15 tb_1 (fun _ _ _ => rfl) dX8_add_31 ?_
      refine V_iconst (v := 1) hX dX8_add_34 (by decide) ?_
      refine V_iadd hX dX8_add_35 ?_
      refine V_putI hX fw_X8_15 tb_1 (fun _ _ _ => ⟨Nat.le_of_ble_eq_true rfl, rfl⟩) dX8_add_36 (fun w6 ew6 => ?_)
      replace hP := lt_r ew6 hP
      exact hR _ _ _ (Option.some.inj hP) dX8_add_39
theorem c_X8_add (l : Launch) (S : Sx) {r : Wd} {F : Nat} {w : Wd} {x1 : Int32}  (h : P_X8_add F w x1 = some r) : Met l yX8_add (wsg yX8_add cX8_add 2 none) rm_X8_add (PC S w [rf S 1, .int x1]) (QCv S r) 0 0 (Aw S) :=
  met_v (by decide) rfl (Nat.le_of_ble_eq_true rfl) ⟨rfl, rfl⟩ (fun X hX hR => s_X8_add  hX hR h)

-- MustNotStop$Tower.volume(LMustNotStop$Bell;I)I
abbrev rm_X9_volume : Room := { frames := 3, cells := 0, slots := 0, locals := 118 }
theorem nk_X9_volume : MNk yX9_volume RX9 2 := ⟨rfl, by decide, by decide, by decide +kernel⟩
def K_X9_volume_60 (F : Nat) (a1 : Nat) (a2 : Nat) (x3 : Int32) (k66 : Wd → Int32 → Int32 → Option (Int32 × Wd)) (rc : Wd → Int32 → Int32 → Int32 → Option (Int32 × Wd)) (w : Wd) (x13 : Int32) (x14 : Int32) (x15 : Int32) : Option (Int32 × Wd) := lt (x15 + 1 : Int32) (fun x16 => rc w x13 x14 x16)
set_option maxRecDepth 100000 in
set_option maxHeartbeats 4000000 in
theorem sK_X9_volume_60 {X : Cx} {S : Sx} {r : Int32 × Wd} {F : Nat} {a1 : Nat} {a2 : Nat} {x3 : Int32} {k66 : Wd → Int32 → Int32 → Option (Int32 × Wd)} {rc : Wd → Int32 → Int32 → Int32 → Option (Int32 × Wd)} {w : Wd} {x13 : Int32} {x14 : Int32} {x15 : Int32} (hX : Ok X S cX9_volume RX9 6 rm_X9_volume) (hR : HRt X S cX9_volume .int r) (ha1 : isX9 a1 = true) (ha2 : isX1 a2 = true) (hk66 : ∀ (w : Wd) (x9 : Int32) (x10 : Int32) , k66 w x9 x10 = some r → V X S w 66 [(0, rf S a1), (1, rf S a2), (2, .int x3), (3, .int x9), (4, .int x10)] []) (hrc : ∀ (w : Wd) (x6 : Int32) (x7 : Int32) (x8 : Int32) , rc w x6 x7 x8 = some r → V X S w 21 [(0, rf S a1), (1, rf S a2), (2, .int x3), (3, .int x6), (4, .int x7), (5, .int x8)] [])  (hP : K_X9_volume_60 F a1 a2 x3 k66 rc w x13 x14 x15 = some r) : V X S w 60 [(0, rf S a1), (1, rf S a2), (2, .int x3), (3, .int x13), (4, .int x14), (5, .int x15)] [] := by
  unfold K_X9_volume_60 at hP
  obtain ⟨x16, ex16⟩ : ∃ y : Int32, y = x15 + 1 := ⟨_, rfl⟩
  replace hP := lt_r ex16 hP
  refine V_iinc (v := x16) (lv' := [(5, .int x16), (0, rf S a1), (1, rf S a2), (2, .int x3), (3, .int x13), (4, .int x14)]) hX dX9_volume_60 (j := 5) rfl (by decide) (by rw [ex16]; rfl) rfl ?_
  refine V_goto (tgt := 21) hX dX9_volume_63 (by decide) ?_
  refine V_sub (lv' := [(0, rf S a1), (1, rf S a2), (2, .int x3), (3, .int x13), (4, .int x14), (5, .int x16)]) [1, 2, 3, 4, 5, 0] rfl ?_
  exact hrc _ _ _ _  hP
def L_X9_volume_21 (F : Nat) (a1 : Nat) (a2 : Nat) (x3 : Int32) (k66 : Wd → Int32 → Int32 → Option (Int32 × Wd)) : Nat → Wd → Int32 → Int32 → Int32 → Option (Int32 × Wd)
  | 0, _, _, _, _ => none
  | n + 1, w, x6, x7, x8 => (if (8 : Int32) ≤ x8 then k66 w x6 x7 else (if ((ishrI x3 x8) &&& 1) = 0 then K_X9_volume_60 F a1 a2 x3 k66 ((L_X9_volume_21 F a1 a2 x3 k66 n)) w x6 x7 x8 else bnd (P_X5_firstOf F w 6 x8) (fun x18 w17 => lt (x6 + x18 : Int32) (fun x19 => bnd (P_X1_tiredOf F w17 a2 x8) (fun x21 w20 => lt (x7 + x21 : Int32) (fun x22 => K_X9_volume_60 F a1 a2 x3 k66 ((L_X9_volume_21 F a1 a2 x3 k66 n)) w20 x19 x22 x8))))))
set_option maxRecDepth 100000 in
set_option maxHeartbeats 4000000 in
theorem sL_X9_volume_21 {X : Cx} {S : Sx} {r : Int32 × Wd} {F : Nat} {a1 : Nat} {a2 : Nat} {x3 : Int32} {k66 : Wd → Int32 → Int32 → Option (Int32 × Wd)} (hX : Ok X S cX9_volume RX9 6 rm_X9_volume) (hR : HRt X S cX9_volume .int r) (ha1 : isX9 a1 = true) (ha2 : isX1 a2 = true) (hk66 : ∀ (w : Wd) (x9 : Int32) (x10 : Int32) , k66 w x9 x10 = some r → V X S w 66 [(0, rf S a1), (1, rf S a2), (2, .int x3), (3, .int x9), (4, .int x10)] []) : ∀ (n : Nat) (w : Wd) (x6 : Int32) (x7 : Int32) (x8 : Int32) , L_X9_volume_21 F a1 a2 x3 k66 n w x6 x7 x8 = some r → V X S w 21 [(0, rf S a1), (1, rf S a2), (2, .int x3), (3, .int x6), (4, .int x7), (5, .int x8)] [] := by
  intro n
  induction n with
  | zero =>
    intro w x6 x7 x8  hP
    exact nn hP
  | succ n ih =>
    intro w x6 x7 x8  hP
    rw [L_X9_volume_21] at hP
    refine V_iload hX dX9_volume_21 5 rfl ?_
    refine V_bipush (v := 8) hX dX9_volume_23 (by decide) ?_
    refine V_icmp_ge (tgt := 66) hX dX9_volume_25 (by decide) (fun hc11 => ?_) (fun hc11 => ?_)
    · replace hP := ite_t hc11 hP
      refine V_sub (lv' := [(0, rf S a1), (1, rf S a2), (2, .int x3), (3, .int x6), (4, .int x7)]) [0, 1, 2, 3, 4] rfl ?_
      exact hk66 _ _ _  hP
    · replace hP := ite_f hc11 hP
      refine V_iload_n hX dX9_volume_28 2 rfl ?_
      refine V_iload hX dX9_volume_29 5 rfl ?_
      refine V_ishr hX dX9_volume_31 ?_
      refine V_iconst (v := 1) hX dX9_volume_32 (by decide) ?_
      refine V_iand hX dX9_volume_33 ?_
      refine V_if_eq (tgt := 60) hX dX9_volume_34 (by decide) (fun hc12 => ?_) (fun hc12 => ?_)
      · replace hP := ite_t hc12 hP
        exact sK_X9_volume_60 hX hR ha1 ha2 hk66 ih  hP
      · replace hP := ite_f hc12 hP
        refine V_iload_n hX dX9_volume_37 3 rfl ?_
        refine V_aload_n hX dX9_volume_38 0 rfl ?_
        refine V_getF (j := 6) hX fk_X9_21 (tb_X9 ha1) (fun _ _ _ => rfl) dX9_volume_39 ?_
        refine V_iload hX dX9_volume_42 5 rfl ?_
        obtain ⟨x18, w17, hcw17, hP⟩ := bnd_e hP
        refine V_callVi (As := [.int x8]) (rest := [.int x6]) hX mk_X9_37 nk_X5_firstOf (fun l => c_X5_firstOf l S (by decide) hcw17) tb_6 rfl ⟨rfl, rfl, Nat.le_of_ble_eq_true rfl, Nat.le_of_ble_eq_true rfl⟩ rfl rfl (Nat.le_of_ble_eq_true rfl) dX9_volume_44 ?_
        refine V_iadd hX dX9_volume_47 ?_
        refine V_topi (fun x19 ex19 => ?_)
        replace hP := lt_r ex19 hP
        refine V_istore_n (lv' := [(3, .int x19), (0, rf S a1), (1, rf S a2), (2, .int x3), (4, .int x7), (5, .int x8)]) hX dX9_volume_48 (by decide) rfl ?_
        refine V_iload hX dX9_volume_49 4 rfl ?_
        refine V_aload_n hX dX9_volume_51 2 rfl ?_
        refine V_iload hX dX9_volume_52 5 rfl ?_
        obtain ⟨x21, w20, hcw20, hP⟩ := bnd_e hP
        refine V_callVi (As := [.int x8]) (rest := [.int x7]) hX mk_X9_43 nk_X1_tiredOf (fun l => c_X1_tiredOf l S ha2 hcw20) (tb_X1 ha2) rfl ⟨rfl, rfl, Nat.le_of_ble_eq_true rfl, Nat.le_of_ble_eq_true rfl⟩ rfl rfl (Nat.le_of_ble_eq_true rfl) dX9_volume_54 ?_
        refine V_iadd hX dX9_volume_57 ?_
        refine V_topi (fun x22 ex22 => ?_)
        replace hP := lt_r ex22 hP
        refine V_istore (lv' := [(4, .int x22), (3, .int x19), (0, rf S a1), (1, rf S a2), (2, .int x3), (5, .int x8)]) hX dX9_volume_58 (by decide) rfl ?_
        refine V_sub (lv' := [(0, rf S a1), (1, rf S a2), (2, .int x3), (3, .int x19), (4, .int x22), (5, .int x8)]) [2, 3, 4, 1, 0, 5] rfl ?_
        exact sK_X9_volume_60 hX hR ha1 ha2 hk66 ih  hP
def P_X9_volume (F : Nat) (w : Wd) (a1 : Nat) (a2 : Nat) (x3 : Int32) : Option (Int32 × Wd) := (if x3 = 0 then some (0, w) else (if (gI w a2 2) = 0 then some (0, w) else L_X9_volume_21 F a1 a2 x3 (fun w x9 x10 => bnd (P_J6_bitCount_0f7a4 F w x3) (fun x24 w23 => lt (gR w23 a1 2) (fun a25 => gd (isX2 a25) (bnd (P_X2_value F w23 a25 x9 x10 x24 (gI w23 a1 3) (gI w23 a1 4) (gI w23 a2 2) (iremI (gI w23 a2 3) 60)) (fun x28 w27 => some (x28, w27)))))) F w 0 0 0))
set_option maxRecDepth 100000 in
set_option maxHeartbeats 4000000 in
theorem s_X9_volume {X : Cx} {S : Sx} {r : Int32 × Wd} {F : Nat} {w : Wd} {a1 : Nat} {a2 : Nat} {x3 : Int32} (ha1 : isX9 a1 = true) (ha2 : isX1 a2 = true) (hX : Ok X S cX9_volume RX9 6 rm_X9_volume) (hR : HRt X S cX9_volume .int r) (hP : P_X9_volume F w a1 a2 x3 = some r) : V X S w 0 [(0, rf S a1), (1, rf S a2), (2, .int x3)] [] := by
  unfold P_X9_volume at hP
  refine V_iload_n hX dX9_volume_0 2 rfl ?_
  refine V_if_eq (tgt := 11) hX dX9_volume_1 (by decide) (fun hc4 => ?_) (fun hc4 => ?_)
  · replace hP := ite_t hc4 hP
    refine V_iconst (v := 0) hX dX9_volume_11 (by decide) ?_
    exact hR _ _ _ _ (Option.some.inj hP) rfl dX9_volume_12
  · replace hP := ite_f hc4 hP
    refine V_aload_n hX dX9_volume_4 1 rfl ?_
    refine V_getI hX fk_X9_32 (tb_X1 ha2) (fun _ _ _ => rfl) dX9_volume_5 ?_
    refine V_if_ne (tgt := 13) hX dX9_volume_8 (by decide) (fun hc5 => ?_) (fun hc5 => ?_)
    · replace hP := ite_f hc5 hP
      refine V_iconst (v := 0) hX dX9_volume_13 (by decide) ?_
      refine V_istore_n (lv' := [(3, .int 0), (0, rf S a1), (1, rf S a2), (2, .int x3)]) hX dX9_volume_14 (by decide) rfl ?_
      refine V_iconst (v := 0) hX dX9_volume_15 (by decide) ?_
      refine V_istore (lv' := [(4, .int 0), (3, .int 0), (0, rf S a1), (1, rf S a2), (2, .int x3)]) hX dX9_volume_16 (by decide) rfl ?_
      refine V_iconst (v := 0) hX dX9_volume_18 (by decide) ?_
      refine V_istore (lv' := [(5, .int 0), (4, .int 0), (3, .int 0), (0, rf S a1), (1, rf S a2), (2, .int x3)]) hX dX9_volume_19 (by decide) rfl ?_
      refine V_sub (lv' := [(0, rf S a1), (1, rf S a2), (2, .int x3), (3, .int 0), (4, .int 0), (5, .int 0)]) [3, 4, 5, 2, 1, 0] rfl ?_
      have k29 : ∀ (w : Wd) (x9 : Int32) (x10 : Int32) , (bnd (P_J6_bitCount_0f7a4 F w x3) (fun x24 w23 => lt (gR w23 a1 2) (fun a25 => gd (isX2 a25) (bnd (P_X2_value F w23 a25 x9 x10 x24 (gI w23 a1 3) (gI w23 a1 4) (gI w23 a2 2) (iremI (gI w23 a2 3) 60)) (fun x28 w27 => some (x28, w27)))))) = some r → V X S w 66 [(0, rf S a1), (1, rf S a2), (2, .int x3), (3, .int x9), (4, .int x10)] [] := by
        intro w x9 x10  hP
        refine V_iload_n hX dX9_volume_66 2 rfl ?_
        obtain ⟨x24, w23, hcw23, hP⟩ := bnd_e hP
        refine V_callSi (As := [.int x3]) (rest := []) hX mk_X9_46 nk_J6_bitCount_0f7a4 (fun l => c_J6_bitCount_0f7a4 l S  hcw23) ⟨rfl, rfl, Nat.le_of_ble_eq_true rfl, Nat.le_of_ble_eq_true rfl⟩ rfl rfl (Nat.le_of_ble_eq_true rfl) dX9_volume_67 ?_
        refine V_istore (lv' := [(5, .int x24), (0, rf S a1), (1, rf S a2), (2, .int x3), (3, .int x9), (4, .int x10)]) hX dX9_volume_70 (by decide) rfl ?_
        refine V_aload_n hX dX9_volume_72 1 rfl ?_
        refine V_getD hX fk_X9_28 (tb_X9 ha1) (fun _ _ _ => rfl) dX9_volume_73 ?_
        refine V_topr (fun a25 ea25 => ?_)
        replace hP := lt_r ea25 hP
        obtain ⟨ha25, hP⟩ := gd_e hP
        refine V_iload_n hX dX9_volume_76 4 rfl ?_
        refine V_iload hX dX9_volume_77 5 rfl ?_
        refine V_iload hX dX9_volume_79 0 rfl ?_
        refine V_aload_n hX dX9_volume_81 1 rfl ?_
        refine V_getI hX fk_X9_9 (tb_X9 ha1) (fun _ _ _ => rfl) dX9_volume_82 ?_
        refine V_aload_n hX dX9_volume_85 1 rfl ?_
        refine V_getI hX fk_X9_15 (tb_X9 ha1) (fun _ _ _ => rfl) dX9_volume_86 ?_
        refine V_aload_n hX dX9_volume_89 2 rfl ?_
        refine V_getI hX fk_X9_32 (tb_X1 ha2) (fun _ _ _ => rfl) dX9_volume_90 ?_
        refine V_aload_n hX dX9_volume_93 2 rfl ?_
        refine V_getI hX fk_X9_51 (tb_X1 ha2) (fun _ _ _ => rfl) dX9_volume_94 ?_
        refine V_bipush (v := 60) hX dX9_volume_97 (by decide) ?_
        refine V_irem hX dX9_volume_99 (by decide) ?_
        obtain ⟨x28, w27, hcw27, hP⟩ := bnd_e hP
        refine V_callVi (As := [.int x9, .int x10, .int x24, .int (gI w23 a1 3), .int (gI w23 a1 4), .int (gI w23 a2 2), .int (iremI (gI w23 a2 3) 60)]) (rest := []) hX mk_X9_54 nk_X2_value (fun l => c_X2_value l S ha25 hcw27) (tb_X2 ha25) rfl ⟨rfl, rfl, Nat.le_of_ble_eq_true rfl, Nat.le_of_ble_eq_true rfl⟩ rfl rfl (Nat.le_of_ble_eq_true rfl) dX9_volume_100 ?_
        exact hR _ _ _ _ (Option.some.inj hP) rfl dX9_volume_103
      exact sL_X9_volume_21 hX hR ha1 ha2 k29 F _ _ _ _  hP
    · replace hP := ite_t hc5 hP
      refine V_iconst (v := 0) hX dX9_volume_11 (by decide) ?_
      exact hR _ _ _ _ (Option.some.inj hP) rfl dX9_volume_12
theorem c_X9_volume (l : Launch) (S : Sx) {r : Int32 × Wd} {F : Nat} {w : Wd} {a1 : Nat} {a2 : Nat} {x3 : Int32} (ha1 : isX9 a1 = true) (ha2 : isX1 a2 = true) (h : P_X9_volume F w a1 a2 x3 = some r) : Met l yX9_volume (wsg yX9_volume cX9_volume 6 (some .int)) rm_X9_volume (PC S w [rf S a1, rf S a2, .int x3]) (QCi S r) 0 0 (Aw S) :=
  met_i (by decide) rfl (Nat.le_of_ble_eq_true rfl) ⟨rfl, rfl⟩ (fun X hX hR => s_X9_volume ha1 ha2 hX hR h)
