-- MustNotStop$Law.combine(III)I
abbrev rm_X2_combine : Room := { frames := 1, cells := 0, slots := 0, locals := 64 }
theorem nk_X2_combine : MNk yX2_combine RX2 3 := ⟨rfl, by decide, by decide, by decide +kernel⟩
def P_X2_combine (F : Nat) (w : Wd) (x1 : Int32) (x2 : Int32) (x3 : Int32) : Option (Int32 × Wd) := (if x1 = 42 then some (x2 * x3, w) else (if x1 = 43 then some (x2 + x3, w) else (if x1 = 45 then some (x2 - x3, w) else (if x1 = 47 then (if x3 = 0 then some (0, w) else gd (neZ x3) (some (x2 / x3, w))) else (if x1 = 60 then lt (if x3 ≤ x2 then 0 else 1 : Int32) (fun x12 => some (x12, w)) else (if x1 = 62 then lt (if x2 ≤ x3 then 0 else 1 : Int32) (fun x16 => some (x16, w)) else lt (if x2 = x3 then 1 else 0 : Int32) (fun x19 => some (x19, w))))))))
set_option maxRecDepth 100000 in
set_option maxHeartbeats 4000000 in
theorem s_X2_combine {X : Cx} {S : Sx} {r : Int32 × Wd} {F : Nat} {w : Wd} {x1 : Int32} {x2 : Int32} {x3 : Int32}  (hX : Ok X S cX2_combine RX2 3 rm_X2_combine) (hR : HRt X S cX2_combine .int r) (hP : P_X2_combine F w x1 x2 x3 = some r) : V X S w 0 [(0, .int x1), (1, .int x2), (2, .int x3)] [] := by
  unfold P_X2_combine at hP
  refine V_iload_n hX dX2_combine_0 0 rfl ?_
  by_cases hc4 : x1 = 42
  · replace hP := ite_t hc4 hP
    refine V_lookup (tgt := 68) hX dX2_combine_1 (by decide) (by rw [hc4] <;> rfl) (by decide) ?_
    refine V_iload_n hX dX2_combine_68 1 rfl ?_
    refine V_iload_n hX dX2_combine_69 2 rfl ?_
    refine V_imul hX dX2_combine_70 ?_
    exact hR _ _ _ _ (Option.some.inj hP) rfl dX2_combine_71
  replace hP := ite_f hc4 hP
  by_cases hc5 : x1 = 43
  · replace hP := ite_t hc5 hP
    refine V_lookup (tgt := 60) hX dX2_combine_1 (by decide) (by rw [hc5] <;> rfl) (by decide) ?_
    refine V_iload_n hX dX2_combine_60 1 rfl ?_
    refine V_iload_n hX dX2_combine_61 2 rfl ?_
    refine V_iadd hX dX2_combine_62 ?_
    exact hR _ _ _ _ (Option.some.inj hP) rfl dX2_combine_63
  replace hP := ite_f hc5 hP
  by_cases hc6 : x1 = 45
  · replace hP := ite_t hc6 hP
    refine V_lookup (tgt := 64) hX dX2_combine_1 (by decide) (by rw [hc6] <;> rfl) (by decide) ?_
    refine V_iload_n hX dX2_combine_64 1 rfl ?_
    refine V_iload_n hX dX2_combine_65 2 rfl ?_
    refine V_isub hX dX2_combine_66 ?_
    exact hR _ _ _ _ (Option.some.inj hP) rfl dX2_combine_67
  replace hP := ite_f hc6 hP
  by_cases hc7 : x1 = 47
  · replace hP := ite_t hc7 hP
    refine V_lookup (tgt := 72) hX dX2_combine_1 (by decide) (by rw [hc7] <;> rfl) (by decide) ?_
    refine V_iload_n hX dX2_combine_72 2 rfl ?_
    refine V_if_ne (tgt := 80) hX dX2_combine_73 (by decide) (fun hc8 => ?_) (fun hc8 => ?_)
    · replace hP := ite_f hc8 hP
      refine V_iload_n hX dX2_combine_80 1 rfl ?_
      refine V_iload_n hX dX2_combine_81 2 rfl ?_
      obtain ⟨hz9, hP⟩ := gd_e hP
      refine V_idiv hX dX2_combine_82 hz9 ?_
      exact hR _ _ _ _ (Option.some.inj hP) rfl dX2_combine_83
    · replace hP := ite_t hc8 hP
      refine V_iconst (v := 0) hX dX2_combine_76 (by decide) ?_
      refine V_goto (tgt := 83) hX dX2_combine_77 (by decide) ?_
      exact hR _ _ _ _ (Option.some.inj hP) rfl dX2_combine_83
  replace hP := ite_f hc7 hP
  by_cases hc10 : x1 = 60
  · replace hP := ite_t hc10 hP
    refine V_lookup (tgt := 84) hX dX2_combine_1 (by decide) (by rw [hc10] <;> rfl) (by decide) ?_
    refine V_iload_n hX dX2_combine_84 1 rfl ?_
    refine V_iload_n hX dX2_combine_85 2 rfl ?_
    have k13 : V X S w 94 [(0, .int x1), (1, .int x2), (2, .int x3)] [.int (if x3 ≤ x2 then 0 else 1)] := by
      refine V_topi (fun x12 ex12 => ?_)
      replace hP := lt_r ex12 hP
      exact hR _ _ _ _ (Option.some.inj hP) rfl dX2_combine_94
    refine V_icmp_ge (tgt := 93) hX dX2_combine_86 (by decide) (fun hc11 => ?_) (fun hc11 => ?_)
    · refine V_iconst (v := 0) hX dX2_combine_93 (by decide) ?_
      refine V_selT (c := x3 ≤ x2) (b := 1) hc11 ?_
      exact k13
    · refine V_iconst (v := 1) hX dX2_combine_89 (by decide) ?_
      refine V_goto (tgt := 94) hX dX2_combine_90 (by decide) ?_
      refine V_selF (c := x3 ≤ x2) (a := 0) hc11 ?_
      exact k13
  replace hP := ite_f hc10 hP
  by_cases hc14 : x1 = 62
  · replace hP := ite_t hc14 hP
    refine V_lookup (tgt := 95) hX dX2_combine_1 (by decide) (by rw [hc14] <;> rfl) (by decide) ?_
    refine V_iload_n hX dX2_combine_95 1 rfl ?_
    refine V_iload_n hX dX2_combine_96 2 rfl ?_
    have k17 : V X S w 105 [(0, .int x1), (1, .int x2), (2, .int x3)] [.int (if x2 ≤ x3 then 0 else 1)] := by
      refine V_topi (fun x16 ex16 => ?_)
      replace hP := lt_r ex16 hP
      exact hR _ _ _ _ (Option.some.inj hP) rfl dX2_combine_105
    refine V_icmp_le (tgt := 104) hX dX2_combine_97 (by decide) (fun hc15 => ?_) (fun hc15 => ?_)
    · refine V_iconst (v := 0) hX dX2_combine_104 (by decide) ?_
      refine V_selT (c := x2 ≤ x3) (b := 1) hc15 ?_
      exact k17
    · refine V_iconst (v := 1) hX dX2_combine_100 (by decide) ?_
      refine V_goto (tgt := 105) hX dX2_combine_101 (by decide) ?_
      refine V_selF (c := x2 ≤ x3) (a := 0) hc15 ?_
      exact k17
  replace hP := ite_f hc14 hP
  refine V_lookup (tgt := 106) hX dX2_combine_1 (by decide) (lk_out (by
      intro q hq
      simp only [List.mem_cons, List.not_mem_nil, or_false] at hq
      rcases hq with rfl | rfl | rfl | rfl | rfl | rfl
      · exact fun e => hc4 (i32_ext (e.trans rfl))
      · exact fun e => hc5 (i32_ext (e.trans rfl))
      · exact fun e => hc6 (i32_ext (e.trans rfl))
      · exact fun e => hc7 (i32_ext (e.trans rfl))
      · exact fun e => hc10 (i32_ext (e.trans rfl))
      · exact fun e => hc14 (i32_ext (e.trans rfl))
      )) (by decide) ?_
  refine V_iload_n hX dX2_combine_106 1 rfl ?_
  refine V_iload_n hX dX2_combine_107 2 rfl ?_
  have k20 : V X S w 116 [(0, .int x1), (1, .int x2), (2, .int x3)] [.int (if x2 = x3 then 1 else 0)] := by
    refine V_topi (fun x19 ex19 => ?_)
    replace hP := lt_r ex19 hP
    exact hR _ _ _ _ (Option.some.inj hP) rfl dX2_combine_116
  refine V_icmp_ne (tgt := 115) hX dX2_combine_108 (by decide) (fun hc18 => ?_) (fun hc18 => ?_)
  · refine V_iconst (v := 0) hX dX2_combine_115 (by decide) ?_
    refine V_selF (c := x2 = x3) (a := 1) hc18 ?_
    exact k20
  · refine V_iconst (v := 1) hX dX2_combine_111 (by decide) ?_
    refine V_goto (tgt := 116) hX dX2_combine_112 (by decide) ?_
    refine V_selT (c := x2 = x3) (b := 0) hc18 ?_
    exact k20
theorem c_X2_combine (l : Launch) (S : Sx) {r : Int32 × Wd} {F : Nat} {w : Wd} {x1 : Int32} {x2 : Int32} {x3 : Int32}  (h : P_X2_combine F w x1 x2 x3 = some r) : Met l yX2_combine (wsg yX2_combine cX2_combine 3 (some .int)) rm_X2_combine (PC S w [.int x1, .int x2, .int x3]) (QCi S r) 0 0 (Aw S) :=
  met_i (by decide) rfl (Nat.le_of_ble_eq_true rfl) ⟨rfl, rfl⟩ (fun X hX hR => s_X2_combine  hX hR h)

-- MustNotStop$Law.value(IIIIIII)I
abbrev rm_X2_value : Room := { frames := 2, cells := 0, slots := 0, locals := 86 }
theorem nk_X2_value : MNk yX2_value RX2 7 := ⟨rfl, by decide, by decide, by decide +kernel⟩
def K_X2_value_240 (F : Nat) (a1 : Nat) (x2 : Int32) (x3 : Int32) (x4 : Int32) (x5 : Int32) (x6 : Int32) (x7 : Int32) (x8 : Int32) (k252 : Wd → Option (Int32 × Wd)) (rc : Wd → Int32 → Int32 → Option (Int32 × Wd)) (w : Wd) (x44 : Int32) (x45 : Int32) : Option (Int32 × Wd) := lt (x45 + 1 : Int32) (fun x46 => lt (x44 + 1 : Int32) (fun x47 => rc w x46 x47))
set_option maxRecDepth 100000 in
set_option maxHeartbeats 4000000 in
theorem sK_X2_value_240 {X : Cx} {S : Sx} {r : Int32 × Wd} {F : Nat} {a1 : Nat} {x2 : Int32} {x3 : Int32} {x4 : Int32} {x5 : Int32} {x6 : Int32} {x7 : Int32} {x8 : Int32} {k252 : Wd → Option (Int32 × Wd)} {rc : Wd → Int32 → Int32 → Option (Int32 × Wd)} {w : Wd} {x44 : Int32} {x45 : Int32} (hX : Ok X S cX2_value RX2 13 rm_X2_value) (hR : HRt X S cX2_value .int r) (ha1 : isX2 a1 = true) (hk252 : ∀ (w : Wd), k252 w = some r → V X S w 252 [(0, rf S a1)] []) (hrc : ∀ (w : Wd) (x24 : Int32) (x25 : Int32) , rc w x24 x25 = some r → V X S w 82 [(0, rf S a1), (8, .int x24), (9, .int x25), (1, .int x2), (2, .int x3), (3, .int x4), (4, .int x5), (5, .int x6), (6, .int x7), (7, .int x8)] [])  (hP : K_X2_value_240 F a1 x2 x3 x4 x5 x6 x7 x8 k252 rc w x44 x45 = some r) : V X S w 240 [(0, rf S a1), (1, .int x2), (2, .int x3), (3, .int x4), (4, .int x5), (5, .int x6), (6, .int x7), (7, .int x8), (9, .int x44), (12, .int x45)] [] := by
  unfold K_X2_value_240 at hP
  refine V_iload hX dX2_value_240 9 rfl ?_
  refine V_iconst (v := 1) hX dX2_value_242 (by decide) ?_
  refine V_iadd hX dX2_value_243 ?_
  refine V_topi (fun x46 ex46 => ?_)
  replace hP := lt_r ex46 hP
  refine V_istore (lv' := [(8, .int x46), (0, rf S a1), (1, .int x2), (2, .int x3), (3, .int x4), (4, .int x5), (5, .int x6), (6, .int x7), (7, .int x8), (9, .int x44), (12, .int x45)]) hX dX2_value_244 (by decide) rfl ?_
  obtain ⟨x47, ex47⟩ : ∃ y : Int32, y = x44 + 1 := ⟨_, rfl⟩
  replace hP := lt_r ex47 hP
  refine V_iinc (v := x47) (lv' := [(9, .int x47), (8, .int x46), (0, rf S a1), (1, .int x2), (2, .int x3), (3, .int x4), (4, .int x5), (5, .int x6), (6, .int x7), (7, .int x8), (12, .int x45)]) hX dX2_value_246 (j := 9) rfl (by decide) (by rw [ex47]; rfl) rfl ?_
  refine V_goto (tgt := 82) hX dX2_value_249 (by decide) ?_
  refine V_sub (lv' := [(0, rf S a1), (8, .int x46), (9, .int x47), (1, .int x2), (2, .int x3), (3, .int x4), (4, .int x5), (5, .int x6), (6, .int x7), (7, .int x8)]) [2, 1, 0, 3, 4, 5, 6, 7, 8, 9] rfl ?_
  exact hrc _ _ _  hP
def L_X2_value_82 (F : Nat) (a1 : Nat) (x2 : Int32) (x3 : Int32) (x4 : Int32) (x5 : Int32) (x6 : Int32) (x7 : Int32) (x8 : Int32) (k252 : Wd → Option (Int32 × Wd)) : Nat → Wd → Int32 → Int32 → Option (Int32 × Wd)
  | 0, _, _, _ => none
  | n + 1, w, x24, x25 => (if (gI w a1 1) ≤ x25 then k252 w  else (if (40 : Int32) ≤ x25 then k252 w  else gd (inB x25 40) (lt (gI w (a1 + 1) x25.toNatClampNeg : Int32) (fun x29 => lt (if (1010 : Int32) ≤ x29 then if x29 = 1136 then 1 else 2 else 0 : Int32) (fun x32 => lt (x24 - x32 : Int32) (fun x33 => (if x33 < 0 then some (0, w) else (if (x33 + 1) < 41 then (if x32 = 0 then bnd (P_X2_named F w a1 x29) (fun x52 w51 => gd (inB x33 41) (lt (sI w51 (a1 + 3) x33.toNatClampNeg x52) (fun w54 => K_X2_value_240 F a1 x2 x3 x4 x5 x6 x7 x8 k252 ((L_X2_value_82 F a1 x2 x3 x4 x5 x6 x7 x8 k252 n)) w54 x25 x33))) else (if x32 = 1 then gd (inB x33 41) (gd (inB x33 41) (lt (sI w (a1 + 3) x33.toNatClampNeg (-(gI w (a1 + 3) x33.toNatClampNeg))) (fun w50 => K_X2_value_240 F a1 x2 x3 x4 x5 x6 x7 x8 k252 ((L_X2_value_82 F a1 x2 x3 x4 x5 x6 x7 x8 k252 n)) w50 x25 x33))) else gd (inB x33 41) (gd (inB (x33 + 1) 41) (bnd (P_X2_combine F w (x29 - 1010) (gI w (a1 + 3) x33.toNatClampNeg) (gI w (a1 + 3) (x33 + 1).toNatClampNeg)) (fun x41 w40 => gd (inB x33 41) (lt (sI w40 (a1 + 3) x33.toNatClampNeg x41) (fun w43 => K_X2_value_240 F a1 x2 x3 x4 x5 x6 x7 x8 k252 ((L_X2_value_82 F a1 x2 x3 x4 x5 x6 x7 x8 k252 n)) w43 x25 x33))))))) else some (0, w)))))))))
set_option maxRecDepth 100000 in
set_option maxHeartbeats 4000000 in
theorem sL_X2_value_82 {X : Cx} {S : Sx} {r : Int32 × Wd} {F : Nat} {a1 : Nat} {x2 : Int32} {x3 : Int32} {x4 : Int32} {x5 : Int32} {x6 : Int32} {x7 : Int32} {x8 : Int32} {k252 : Wd → Option (Int32 × Wd)} (hX : Ok X S cX2_value RX2 13 rm_X2_value) (hR : HRt X S cX2_value .int r) (ha1 : isX2 a1 = true) (hk252 : ∀ (w : Wd), k252 w = some r → V X S w 252 [(0, rf S a1)] []) : ∀ (n : Nat) (w : Wd) (x24 : Int32) (x25 : Int32) , L_X2_value_82 F a1 x2 x3 x4 x5 x6 x7 x8 k252 n w x24 x25 = some r → V X S w 82 [(0, rf S a1), (8, .int x24), (9, .int x25), (1, .int x2), (2, .int x3), (3, .int x4), (4, .int x5), (5, .int x6), (6, .int x7), (7, .int x8)] [] := by
  intro n
  induction n with
  | zero =>
    intro w x24 x25  hP
    exact nn hP
  | succ n ih =>
    intro w x24 x25  hP
    rw [L_X2_value_82] at hP
    refine V_iload hX dX2_value_82 2 rfl ?_
    refine V_aload_n hX dX2_value_84 0 rfl ?_
    refine V_getI hX fk_X2_15 (tb_X2 ha1) (fun _ _ _ => rfl) dX2_value_85 ?_
    refine V_icmp_ge (tgt := 252) hX dX2_value_88 (by decide) (fun hc26 => ?_) (fun hc26 => ?_)
    · replace hP := ite_t hc26 hP
      refine V_sub (lv' := [(0, rf S a1)]) [0] rfl ?_
      exact hk252 _   hP
    · replace hP := ite_f hc26 hP
      refine V_iload hX dX2_value_91 2 rfl ?_
      refine V_aload_n hX dX2_value_93 0 rfl ?_
      refine V_getF (j := a1 + 1) hX fk_X2_9 (tb_X2 ha1) (fun _ _ _ => rfl) dX2_value_94 ?_
      refine V_alenI (v := 40) hX (tb_X2_1 ha1) (by decide) dX2_value_97 ?_
      refine V_icmp_ge (tgt := 252) hX dX2_value_98 (by decide) (fun hc27 => ?_) (fun hc27 => ?_)
      · replace hP := ite_t hc27 hP
        refine V_sub (lv' := [(0, rf S a1)]) [0] rfl ?_
        exact hk252 _   hP
      · replace hP := ite_f hc27 hP
        refine V_aload_n hX dX2_value_101 0 rfl ?_
        refine V_getF (j := a1 + 1) hX fk_X2_9 (tb_X2 ha1) (fun _ _ _ => rfl) dX2_value_102 ?_
        refine V_iload hX dX2_value_105 2 rfl ?_
        obtain ⟨hi28, hP⟩ := gd_e hP
        refine V_iald hX (tb_X2_1 ha1) hi28 dX2_value_107 ?_
        refine V_topi (fun x29 ex29 => ?_)
        replace hP := lt_r ex29 hP
        refine V_istore (lv' := [(10, .int x29), (0, rf S a1), (8, .int x24), (9, .int x25), (1, .int x2), (2, .int x3), (3, .int x4), (4, .int x5), (5, .int x6), (6, .int x7), (7, .int x8)]) hX dX2_value_108 (by decide) rfl ?_
        refine V_iload hX dX2_value_110 0 rfl ?_
        refine V_sipush (v := 1010) hX dX2_value_112 (by decide) ?_
        have k55 : V X S w 135 [(10, .int x29), (0, rf S a1), (8, .int x24), (9, .int x25), (1, .int x2), (2, .int x3), (3, .int x4), (4, .int x5), (5, .int x6), (6, .int x7), (7, .int x8)] [.int (if (1010 : Int32) ≤ x29 then if x29 = 1136 then 1 else 2 else 0)] := by
          refine V_topi (fun x32 ex32 => ?_)
          replace hP := lt_r ex32 hP
          refine V_istore (lv' := [(11, .int x32), (10, .int x29), (0, rf S a1), (8, .int x24), (9, .int x25), (1, .int x2), (2, .int x3), (3, .int x4), (4, .int x5), (5, .int x6), (6, .int x7), (7, .int x8)]) hX dX2_value_135 (by decide) rfl ?_
          refine V_iload hX dX2_value_137 3 rfl ?_
          refine V_iload hX dX2_value_139 0 rfl ?_
          refine V_isub hX dX2_value_141 ?_
          refine V_topi (fun x33 ex33 => ?_)
          replace hP := lt_r ex33 hP
          refine V_istore (lv' := [(12, .int x33), (11, .int x32), (10, .int x29), (0, rf S a1), (8, .int x24), (9, .int x25), (1, .int x2), (2, .int x3), (3, .int x4), (4, .int x5), (5, .int x6), (6, .int x7), (7, .int x8)]) hX dX2_value_142 (by decide) rfl ?_
          refine V_iload hX dX2_value_144 0 rfl ?_
          refine V_if_lt (tgt := 161) hX dX2_value_146 (by decide) (fun hc34 => ?_) (fun hc34 => ?_)
          · replace hP := ite_t hc34 hP
            refine V_iconst (v := 0) hX dX2_value_161 (by decide) ?_
            exact hR _ _ _ _ (Option.some.inj hP) rfl dX2_value_162
          · replace hP := ite_f hc34 hP
            refine V_iload hX dX2_value_149 0 rfl ?_
            refine V_iconst (v := 1) hX dX2_value_151 (by decide) ?_
            refine V_iadd hX dX2_value_152 ?_
            refine V_aload_n hX dX2_value_153 3 rfl ?_
            refine V_getF (j := a1 + 3) hX fk_X2_22 (tb_X2 ha1) (fun _ _ _ => rfl) dX2_value_154 ?_
            refine V_alenI (v := 41) hX (tb_X2_3 ha1) (by decide) dX2_value_157 ?_
            refine V_icmp_lt (tgt := 163) hX dX2_value_158 (by decide) (fun hc35 => ?_) (fun hc35 => ?_)
            · replace hP := ite_t hc35 hP
              refine V_iload hX dX2_value_163 1 rfl ?_
              refine V_if_ne (tgt := 184) hX dX2_value_165 (by decide) (fun hc36 => ?_) (fun hc36 => ?_)
              · replace hP := ite_f hc36 hP
                refine V_iload hX dX2_value_184 1 rfl ?_
                refine V_iconst (v := 1) hX dX2_value_186 (by decide) ?_
                refine V_icmp_ne (tgt := 208) hX dX2_value_187 (by decide) (fun hc37 => ?_) (fun hc37 => ?_)
                · replace hP := ite_f hc37 hP
                  refine V_aload_n hX dX2_value_208 3 rfl ?_
                  refine V_getF (j := a1 + 3) hX fk_X2_22 (tb_X2 ha1) (fun _ _ _ => rfl) dX2_value_209 ?_
                  refine V_iload hX dX2_value_212 0 rfl ?_
                  refine V_iload hX dX2_value_214 2 rfl ?_
                  refine V_sipush (v := 1010) hX dX2_value_216 (by decide) ?_
                  refine V_isub hX dX2_value_219 ?_
                  refine V_aload_n hX dX2_value_220 3 rfl ?_
                  refine V_getF (j := a1 + 3) hX fk_X2_22 (tb_X2 ha1) (fun _ _ _ => rfl) dX2_value_221 ?_
                  refine V_iload hX dX2_value_224 0 rfl ?_
                  obtain ⟨hi38, hP⟩ := gd_e hP
                  refine V_iald hX (tb_X2_3 ha1) hi38 dX2_value_226 ?_
                  refine V_aload_n hX dX2_value_227 3 rfl ?_
                  refine V_getF (j := a1 + 3) hX fk_X2_22 (tb_X2 ha1) (fun _ _ _ => rfl) dX2_value_228 ?_
                  refine V_iload hX dX2_value_231 0 rfl ?_
                  refine V_iconst (v := 1) hX dX2_value_233 (by decide) ?_
                  refine V_iadd hX dX2_value_234 ?_
                  obtain ⟨hi39, hP⟩ := gd_e hP
                  refine V_iald hX (tb_X2_3 ha1) hi39 dX2_value_235 ?_
                  obtain ⟨x41, w40, hcw40, hP⟩ := bnd_e hP
                  refine V_callSi (As := [.int (x29 - 1010), .int (gI w (a1 + 3) x33.toNatClampNeg), .int (gI w (a1 + 3) (x33 + 1).toNatClampNeg)]) (rest := [.int x33, rf S (a1 + 3)]) hX mk_X2_103 nk_X2_combine (fun l => c_X2_combine l S  hcw40) ⟨rfl, rfl, Nat.le_of_ble_eq_true rfl, Nat.le_of_ble_eq_true rfl⟩ rfl rfl (Nat.le_of_ble_eq_true rfl) dX2_value_236 ?_
                  obtain ⟨hi42, hP⟩ := gd_e hP
                  refine V_iast hX (tb_X2_3 ha1) hi42 dX2_value_239 (fun w43 ew43 => ?_)
                  replace hP := lt_r ew43 hP
                  refine V_sub (lv' := [(0, rf S a1), (1, .int x2), (2, .int x3), (3, .int x4), (4, .int x5), (5, .int x6), (6, .int x7), (7, .int x8), (9, .int x25), (12, .int x33)]) [3, 6, 7, 8, 9, 10, 11, 12, 5, 0] rfl ?_
                  exact sK_X2_value_240 hX hR ha1 hk252 ih  hP
                · replace hP := ite_t hc37 hP
                  refine V_aload_n hX dX2_value_190 3 rfl ?_
                  refine V_getF (j := a1 + 3) hX fk_X2_22 (tb_X2 ha1) (fun _ _ _ => rfl) dX2_value_191 ?_
                  refine V_iload hX dX2_value_194 0 rfl ?_
                  refine V_aload_n hX dX2_value_196 3 rfl ?_
                  refine V_getF (j := a1 + 3) hX fk_X2_22 (tb_X2 ha1) (fun _ _ _ => rfl) dX2_value_197 ?_
                  refine V_iload hX dX2_value_200 0 rfl ?_
                  obtain ⟨hi48, hP⟩ := gd_e hP
                  refine V_iald hX (tb_X2_3 ha1) hi48 dX2_value_202 ?_
                  refine V_ineg hX dX2_value_203 ?_
                  obtain ⟨hi49, hP⟩ := gd_e hP
                  refine V_iast hX (tb_X2_3 ha1) hi49 dX2_value_204 (fun w50 ew50 => ?_)
                  replace hP := lt_r ew50 hP
                  refine V_goto (tgt := 240) hX dX2_value_205 (by decide) ?_
                  refine V_sub (lv' := [(0, rf S a1), (1, .int x2), (2, .int x3), (3, .int x4), (4, .int x5), (5, .int x6), (6, .int x7), (7, .int x8), (9, .int x25), (12, .int x33)]) [3, 6, 7, 8, 9, 10, 11, 12, 5, 0] rfl ?_
                  exact sK_X2_value_240 hX hR ha1 hk252 ih  hP
              · replace hP := ite_t hc36 hP
                refine V_aload_n hX dX2_value_168 3 rfl ?_
                refine V_getF (j := a1 + 3) hX fk_X2_22 (tb_X2 ha1) (fun _ _ _ => rfl) dX2_value_169 ?_
                refine V_iload hX dX2_value_172 0 rfl ?_
                refine V_aload_n hX dX2_value_174 3 rfl ?_
                refine V_iload hX dX2_value_175 2 rfl ?_
                obtain ⟨x52, w51, hcw51, hP⟩ := bnd_e hP
                refine V_callVi (As := [.int x29]) (rest := [.int x33, rf S (a1 + 3)]) hX mk_X2_100 nk_X2_named (fun l => c_X2_named l S ha1 hcw51) (tb_X2 ha1) rfl ⟨rfl, rfl, Nat.le_of_ble_eq_true rfl, Nat.le_of_ble_eq_true rfl⟩ rfl rfl (Nat.le_of_ble_eq_true rfl) dX2_value_177 ?_
                obtain ⟨hi53, hP⟩ := gd_e hP
                refine V_iast hX (tb_X2_3 ha1) hi53 dX2_value_180 (fun w54 ew54 => ?_)
                replace hP := lt_r ew54 hP
                refine V_goto (tgt := 240) hX dX2_value_181 (by decide) ?_
                refine V_sub (lv' := [(0, rf S a1), (1, .int x2), (2, .int x3), (3, .int x4), (4, .int x5), (5, .int x6), (6, .int x7), (7, .int x8), (9, .int x25), (12, .int x33)]) [3, 6, 7, 8, 9, 10, 11, 12, 5, 0] rfl ?_
                exact sK_X2_value_240 hX hR ha1 hk252 ih  hP
            · replace hP := ite_f hc35 hP
              refine V_iconst (v := 0) hX dX2_value_161 (by decide) ?_
              exact hR _ _ _ _ (Option.some.inj hP) rfl dX2_value_162
        refine V_icmp_ge (tgt := 122) hX dX2_value_115 (by decide) (fun hc31 => ?_) (fun hc31 => ?_)
        · refine V_iload hX dX2_value_122 0 rfl ?_
          refine V_sipush (v := 1136) hX dX2_value_124 (by decide) ?_
          refine V_icmp_ne (tgt := 134) hX dX2_value_127 (by decide) (fun hc30 => ?_) (fun hc30 => ?_)
          · refine V_iconst (v := 2) hX dX2_value_134 (by decide) ?_
            refine V_selF (c := x29 = 1136) (a := 1) hc30 ?_
            refine V_selT (c := (1010 : Int32) ≤ x29) (b := 0) hc31 ?_
            exact k55
          · refine V_iconst (v := 1) hX dX2_value_130 (by decide) ?_
            refine V_goto (tgt := 135) hX dX2_value_131 (by decide) ?_
            refine V_selT (c := x29 = 1136) (b := 2) hc30 ?_
            refine V_selT (c := (1010 : Int32) ≤ x29) (b := 0) hc31 ?_
            exact k55
        · refine V_iconst (v := 0) hX dX2_value_118 (by decide) ?_
          refine V_goto (tgt := 135) hX dX2_value_119 (by decide) ?_
          refine V_selF (c := (1010 : Int32) ≤ x29) (a := if x29 = 1136 then 1 else 2) hc31 ?_
          exact k55
def P_X2_value (F : Nat) (w : Wd) (a1 : Nat) (x2 : Int32) (x3 : Int32) (x4 : Int32) (x5 : Int32) (x6 : Int32) (x7 : Int32) (x8 : Int32) : Option (Int32 × Wd) := (if (gI w a1 1) = 0 then some ((((x2 * 10) - x3) - (x5 * 3)) - x6, w) else gd (inB 0 7) (lt (sI w (a1 + 2) 0 x2) (fun w11 => gd (inB 1 7) (lt (sI w11 (a1 + 2) 1 x3) (fun w13 => gd (inB 2 7) (lt (sI w13 (a1 + 2) 2 x4) (fun w15 => gd (inB 3 7) (lt (sI w15 (a1 + 2) 3 x5) (fun w17 => gd (inB 4 7) (lt (sI w17 (a1 + 2) 4 x6) (fun w19 => gd (inB 5 7) (lt (sI w19 (a1 + 2) 5 x7) (fun w21 => gd (inB 6 7) (lt (sI w21 (a1 + 2) 6 x8) (fun w23 => L_X2_value_82 F a1 x2 x3 x4 x5 x6 x7 x8 (fun w  => gd (inB 0 41) (some (gI w (a1 + 3) 0, w))) F w23 0 0)))))))))))))))
set_option maxRecDepth 100000 in
set_option maxHeartbeats 4000000 in
theorem s_X2_value {X : Cx} {S : Sx} {r : Int32 × Wd} {F : Nat} {w : Wd} {a1 : Nat} {x2 : Int32} {x3 : Int32} {x4 : Int32} {x5 : Int32} {x6 : Int32} {x7 : Int32} {x8 : Int32} (ha1 : isX2 a1 = true) (hX : Ok X S cX2_value RX2 13 rm_X2_value) (hR : HRt X S cX2_value .int r) (hP : P_X2_value F w a1 x2 x3 x4 x5 x6 x7 x8 = some r) : V X S w 0 [(0, rf S a1), (1, .int x2), (2, .int x3), (3, .int x4), (4, .int x5), (5, .int x6), (6, .int x7), (7, .int x8)] [] := by
  unfold P_X2_value at hP
  refine V_aload_n hX dX2_value_0 0 rfl ?_
  refine V_getI hX fk_X2_15 (tb_X2 ha1) (fun _ _ _ => rfl) dX2_value_1 ?_
  refine V_if_ne (tgt := 22) hX dX2_value_4 (by decide) (fun hc9 => ?_) (fun hc9 => ?_)
  · replace hP := ite_f hc9 hP
    refine V_aload_n hX dX2_value_22 0 rfl ?_
    refine V_getF (j := a1 + 2) hX fk_X2_19 (tb_X2 ha1) (fun _ _ _ => rfl) dX2_value_23 ?_
    refine V_iconst (v := 0) hX dX2_value_26 (by decide) ?_
    refine V_iload_n hX dX2_value_27 1 rfl ?_
    obtain ⟨hi10, hP⟩ := gd_e hP
    refine V_iast hX (tb_X2_2 ha1) hi10 dX2_value_28 (fun w11 ew11 => ?_)
    replace hP := lt_r ew11 hP
    refine V_aload_n hX dX2_value_29 0 rfl ?_
    refine V_getF (j := a1 + 2) hX fk_X2_19 (tb_X2 ha1) (fun _ _ _ => rfl) dX2_value_30 ?_
    refine V_iconst (v := 1) hX dX2_value_33 (by decide) ?_
    refine V_iload_n hX dX2_value_34 2 rfl ?_
    obtain ⟨hi12, hP⟩ := gd_e hP
    refine V_iast hX (tb_X2_2 ha1) hi12 dX2_value_35 (fun w13 ew13 => ?_)
    replace hP := lt_r ew13 hP
    refine V_aload_n hX dX2_value_36 0 rfl ?_
    refine V_getF (j := a1 + 2) hX fk_X2_19 (tb_X2 ha1) (fun _ _ _ => rfl) dX2_value_37 ?_
    refine V_iconst (v := 2) hX dX2_value_40 (by decide) ?_
    refine V_iload_n hX dX2_value_41 3 rfl ?_
    obtain ⟨hi14, hP⟩ := gd_e hP
    refine V_iast hX (tb_X2_2 ha1) hi14 dX2_value_42 (fun w15 ew15 => ?_)
    replace hP := lt_r ew15 hP
    refine V_aload_n hX dX2_value_43 0 rfl ?_
    refine V_getF (j := a1 + 2) hX fk_X2_19 (tb_X2 ha1) (fun _ _ _ => rfl) dX2_value_44 ?_
    refine V_iconst (v := 3) hX dX2_value_47 (by decide) ?_
    refine V_iload hX dX2_value_48 4 rfl ?_
    obtain ⟨hi16, hP⟩ := gd_e hP
    refine V_iast hX (tb_X2_2 ha1) hi16 dX2_value_50 (fun w17 ew17 => ?_)
    replace hP := lt_r ew17 hP
    refine V_aload_n hX dX2_value_51 0 rfl ?_
    refine V_getF (j := a1 + 2) hX fk_X2_19 (tb_X2 ha1) (fun _ _ _ => rfl) dX2_value_52 ?_
    refine V_iconst (v := 4) hX dX2_value_55 (by decide) ?_
    refine V_iload hX dX2_value_56 5 rfl ?_
    obtain ⟨hi18, hP⟩ := gd_e hP
    refine V_iast hX (tb_X2_2 ha1) hi18 dX2_value_58 (fun w19 ew19 => ?_)
    replace hP := lt_r ew19 hP
    refine V_aload_n hX dX2_value_59 0 rfl ?_
    refine V_getF (j := a1 + 2) hX fk_X2_19 (tb_X2 ha1) (fun _ _ _ => rfl) dX2_value_60 ?_
    refine V_iconst (v := 5) hX dX2_value_63 (by decide) ?_
    refine V_iload hX dX2_value_64 6 rfl ?_
    obtain ⟨hi20, hP⟩ := gd_e hP
    refine V_iast hX (tb_X2_2 ha1) hi20 dX2_value_66 (fun w21 ew21 => ?_)
    replace hP := lt_r ew21 hP
    refine V_aload_n hX dX2_value_67 0 rfl ?_
    refine V_getF (j := a1 + 2) hX fk_X2_19 (tb_X2 ha1) (fun _ _ _ => rfl) dX2_value_68 ?_
    refine V_bipush (v := 6) hX dX2_value_71 (by decide) ?_
    refine V_iload hX dX2_value_73 7 rfl ?_
    obtain ⟨hi22, hP⟩ := gd_e hP
    refine V_iast hX (tb_X2_2 ha1) hi22 dX2_value_75 (fun w23 ew23 => ?_)
    replace hP := lt_r ew23 hP
    refine V_iconst (v := 0) hX dX2_value_76 (by decide) ?_
    refine V_istore (lv' := [(8, .int 0), (0, rf S a1), (1, .int x2), (2, .int x3), (3, .int x4), (4, .int x5), (5, .int x6), (6, .int x7), (7, .int x8)]) hX dX2_value_77 (by decide) rfl ?_
    refine V_iconst (v := 0) hX dX2_value_79 (by decide) ?_
    refine V_istore (lv' := [(9, .int 0), (8, .int 0), (0, rf S a1), (1, .int x2), (2, .int x3), (3, .int x4), (4, .int x5), (5, .int x6), (6, .int x7), (7, .int x8)]) hX dX2_value_80 (by decide) rfl ?_
    refine V_sub (lv' := [(0, rf S a1), (8, .int 0), (9, .int 0), (1, .int x2), (2, .int x3), (3, .int x4), (4, .int x5), (5, .int x6), (6, .int x7), (7, .int x8)]) [2, 1, 0, 3, 4, 5, 6, 7, 8, 9] rfl ?_
    have k57 : ∀ (w : Wd)  , (gd (inB 0 41) (some (gI w (a1 + 3) 0, w))) = some r → V X S w 252 [(0, rf S a1)] [] := by
      intro w   hP
      refine V_aload_n hX dX2_value_252 0 rfl ?_
      refine V_getF (j := a1 + 3) hX fk_X2_22 (tb_X2 ha1) (fun _ _ _ => rfl) dX2_value_253 ?_
      refine V_iconst (v := 0) hX dX2_value_256 (by decide) ?_
      obtain ⟨hi56, hP⟩ := gd_e hP
      refine V_iald hX (tb_X2_3 ha1) hi56 dX2_value_257 ?_
      exact hR _ _ _ _ (Option.some.inj hP) rfl dX2_value_258
    exact sL_X2_value_82 hX hR ha1 k57 F _ _ _  hP
  · replace hP := ite_t hc9 hP
    refine V_iload_n hX dX2_value_7 1 rfl ?_
    refine V_bipush (v := 10) hX dX2_value_8 (by decide) ?_
    refine V_imul hX dX2_value_10 ?_
    refine V_iload_n hX dX2_value_11 2 rfl ?_
    refine V_isub hX dX2_value_12 ?_
    refine V_iload hX dX2_value_13 4 rfl ?_
    refine V_iconst (v := 3) hX dX2_value_15 (by decide) ?_
    refine V_imul hX dX2_value_16 ?_
    refine V_isub hX dX2_value_17 ?_
    refine V_iload hX dX2_value_18 5 rfl ?_
    refine V_isub hX dX2_value_20 ?_
    exact hR _ _ _ _ (Option.some.inj hP) rfl dX2_value_21
theorem c_X2_value (l : Launch) (S : Sx) {r : Int32 × Wd} {F : Nat} {w : Wd} {a1 : Nat} {x2 : Int32} {x3 : Int32} {x4 : Int32} {x5 : Int32} {x6 : Int32} {x7 : Int32} {x8 : Int32} (ha1 : isX2 a1 = true) (h : P_X2_value F w a1 x2 x3 x4 x5 x6 x7 x8 = some r) : Met l yX2_value (wsg yX2_value cX2_value 13 (some .int)) rm_X2_value (PC S w [rf S a1, .int x2, .int x3, .int x4, .int x5, .int x6, .int x7, .int x8]) (QCi S r) 0 0 (Aw S) :=
  met_i (by decide) rfl (Nat.le_of_ble_eq_true rfl) ⟨rfl, rfl⟩ (fun X hX hR => s_X2_value ha1 hX hR h)

-- MustNotStop$Night.note(III)I
abbrev rm_X3_note : Room := { frames := 1, cells := 0, slots := 0, locals := 64 }
theorem nk_X3_note : MNk yX3_note RX3 3 := ⟨rfl, by decide, by decide, by decide +kernel⟩
def P_X3_note (F : Nat) (w : Wd) (x1 : Int32) (x2 : Int32) (x3 : Int32) : Option (Int32 × Wd) := (if (gI w 76 3) < 0 then some ((-1), w) else (if (gI w 76 3) < 12 then gd (inB (gI w 76 3) 12) (lt (sI w 77 (gI w 76 3).toNatClampNeg x1) (fun w7 => gd (inB (gI w7 76 3) 12) (lt (sI w7 78 (gI w7 76 3).toNatClampNeg x2) (fun w9 => gd (inB (gI w9 76 3) 12) (lt (sI w9 79 (gI w9 76 3).toNatClampNeg x3) (fun w11 => lt (sI w11 76 3 ((gI w11 76 3) + 1)) (fun w12 => some (gI w12 76 3, w12)))))))) else some ((-1), w)))
set_option maxRecDepth 100000 in
set_option maxHeartbeats 4000000 in
theorem s_X3_note {X : Cx} {S : Sx} {r : Int32 × Wd} {F : Nat} {w : Wd} {x1 : Int32} {x2 : Int32} {x3 : Int32}  (hX : Ok X S cX3_note RX3 4 rm_X3_note) (hR : HRt X S cX3_note .int r) (hP : P_X3_note F w x1 x2 x3 = some r) : V X S w 0 [(0, rf S 76), (1, .int x1), (2, .int x2), (3, .int x3)] [] := by
  unfold P_X3_note at hP
  refine V_aload_n hX dX3_note_0 0 rfl ?_
  refine V_getI hX fk_X3_21 tb_76 (fun _ _ _ => rfl) dX3_note_1 ?_
  refine V_if_lt (tgt := 16) hX dX3_note_4 (by decide) (fun hc4 => ?_) (fun hc4 => ?_)
  · replace hP := ite_t hc4 hP
    refine V_iconst (v := (-1)) hX dX3_note_16 (by decide) ?_
    exact hR _ _ _ _ (Option.some.inj hP) rfl dX3_note_17
  · replace hP := ite_f hc4 hP
    refine V_aload_n hX dX3_note_7 0 rfl ?_
    refine V_getI hX fk_X3_21 tb_76 (fun _ _ _ => rfl) dX3_note_8 ?_
    refine V_bipush (v := 12) hX dX3_note_11 (by decide) ?_
    refine V_icmp_lt (tgt := 18) hX dX3_note_13 (by decide) (fun hc5 => ?_) (fun hc5 => ?_)
    · replace hP := ite_t hc5 hP
      refine V_aload_n hX dX3_note_18 0 rfl ?_
      refine V_getF (j := 77) hX fk_X3_11 tb_76 (fun _ _ _ => rfl) dX3_note_19 ?_
      refine V_aload_n hX dX3_note_22 0 rfl ?_
      refine V_getI hX fk_X3_21 tb_76 (fun _ _ _ => rfl) dX3_note_23 ?_
      refine V_iload_n hX dX3_note_26 1 rfl ?_
      obtain ⟨hi6, hP⟩ := gd_e hP
      refine V_iast hX tb_77 hi6 dX3_note_27 (fun w7 ew7 => ?_)
      replace hP := lt_r ew7 hP
      refine V_aload_n hX dX3_note_28 0 rfl ?_
      refine V_getF (j := 78) hX fk_X3_15 tb_76 (fun _ _ _ => rfl) dX3_note_29 ?_
      refine V_aload_n hX dX3_note_32 0 rfl ?_
      refine V_getI hX fk_X3_21 tb_76 (fun _ _ _ => rfl) dX3_note_33 ?_
      refine V_iload_n hX dX3_note_36 2 rfl ?_
      obtain ⟨hi8, hP⟩ := gd_e hP
      refine V_iast hX tb_78 hi8 dX3_note_37 (fun w9 ew9 => ?_)
      replace hP := lt_r ew9 hP
      refine V_aload_n hX dX3_note_38 0 rfl ?_
      refine V_getF (j := 79) hX fk_X3_18 tb_76 (fun _ _ _ => rfl) dX3_note_39 ?_
      refine V_aload_n hX dX3_note_42 0 rfl ?_
      refine V_getI hX fk_X3_21 tb_76 (fun _ _ _ => rfl) dX3_note_43 ?_
      refine V_iload_n hX dX3_note_46 3 rfl ?_
      obtain ⟨hi10, hP⟩ := gd_e hP
      refine V_iast hX tb_79 hi10 dX3_note_47 (fun w11 ew11 => ?_)
      replace hP := lt_r ew11 hP
      refine V_aload_n hX dX3_note_48 0 rfl ?_
      refine V_dup hX dX3_note_49 rfl ?_
      refine V_getI hX fk_X3_21 tb_76 (fun _ _ _ => rfl) dX3_note_50 ?_
      refine V_iconst (v := 1) hX dX3_note_53 (by decide) ?_
      refine V_iadd hX dX3_note_54 ?_
      refine V_putI hX fw_X3_21 tb_76 (fun _ _ _ => ⟨Nat.le_of_ble_eq_true rfl, rfl⟩) dX3_note_55 (fun w12 ew12 => ?_)
      replace hP := lt_r ew12 hP
      refine V_aload_n hX dX3_note_58 0 rfl ?_
      refine V_getI hX fk_X3_21 tb_76 (fun _ _ _ => rfl) dX3_note_59 ?_
      exact hR _ _ _ _ (Option.some.inj hP) rfl dX3_note_62
    · replace hP := ite_f hc5 hP
      refine V_iconst (v := (-1)) hX dX3_note_16 (by decide) ?_
      exact hR _ _ _ _ (Option.some.inj hP) rfl dX3_note_17
theorem c_X3_note (l : Launch) (S : Sx) {r : Int32 × Wd} {F : Nat} {w : Wd} {x1 : Int32} {x2 : Int32} {x3 : Int32}  (h : P_X3_note F w x1 x2 x3 = some r) : Met l yX3_note (wsg yX3_note cX3_note 4 (some .int)) rm_X3_note (PC S w [rf S 76, .int x1, .int x2, .int x3]) (QCi S r) 0 0 (Aw S) :=
  met_i (by decide) rfl (Nat.le_of_ble_eq_true rfl) ⟨rfl, rfl⟩ (fun X hX hR => s_X3_note  hX hR h)

-- MustNotStop$Roll.has(I)Z
abbrev rm_X5_has : Room := { frames := 1, cells := 0, slots := 0, locals := 64 }
theorem nk_X5_has : MNk yX5_has RX5 1 := ⟨rfl, by decide, by decide, by decide +kernel⟩
def P_X5_has (F : Nat) (w : Wd) (a1 : Nat) (x2 : Int32) : Option (Int32 × Wd) := lt (if x2 < 0 then 0 else if (gI w a1 2) ≤ x2 then 0 else if (8 : Int32) ≤ x2 then 0 else 1 : Int32) (fun x6 => gd (isZO x6) (some (x6, w)))
set_option maxRecDepth 100000 in
set_option maxHeartbeats 4000000 in
theorem s_X5_has {X : Cx} {S : Sx} {r : Int32 × Wd} {F : Nat} {w : Wd} {a1 : Nat} {x2 : Int32} (ha1 : isX5 a1 = true) (hX : Ok X S cX5_has RX5 2 rm_X5_has) (hR : HRt X S cX5_has .boolean r) (hP : P_X5_has F w a1 x2 = some r) : V X S w 0 [(0, rf S a1), (1, .int x2)] [] := by
  unfold P_X5_has at hP
  refine V_iload_n hX dX5_has_0 1 rfl ?_
  have k8 : V X S w 23 [(0, rf S a1), (1, .int x2)] [.int (if x2 < 0 then 0 else if (gI w a1 2) ≤ x2 then 0 else if (8 : Int32) ≤ x2 then 0 else 1)] := by
    refine V_topi (fun x6 ex6 => ?_)
    replace hP := lt_r ex6 hP
    obtain ⟨hz7, hP⟩ := gd_e hP
    exact hR _ _ _ _ (Option.some.inj hP) (nar_z hz7) dX5_has_23
  refine V_if_lt (tgt := 22) hX dX5_has_1 (by decide) (fun hc5 => ?_) (fun hc5 => ?_)
  · refine V_iconst (v := 0) hX dX5_has_22 (by decide) ?_
    refine V_selT (c := x2 < 0) (b := if (gI w a1 2) ≤ x2 then 0 else if (8 : Int32) ≤ x2 then 0 else 1) hc5 ?_
    exact k8
  · refine V_iload_n hX dX5_has_4 1 rfl ?_
    refine V_aload_n hX dX5_has_5 0 rfl ?_
    refine V_getI hX fk_X5_18 (tb_X5 ha1) (fun _ _ _ => rfl) dX5_has_6 ?_
    refine V_icmp_ge (tgt := 22) hX dX5_has_9 (by decide) (fun hc4 => ?_) (fun hc4 => ?_)
    · refine V_iconst (v := 0) hX dX5_has_22 (by decide) ?_
      refine V_selT (c := (gI w a1 2) ≤ x2) (b := if (8 : Int32) ≤ x2 then 0 else 1) hc4 ?_
      refine V_selF (c := x2 < 0) (a := 0) hc5 ?_
      exact k8
    · refine V_iload_n hX dX5_has_12 1 rfl ?_
      refine V_bipush (v := 8) hX dX5_has_13 (by decide) ?_
      refine V_icmp_ge (tgt := 22) hX dX5_has_15 (by decide) (fun hc3 => ?_) (fun hc3 => ?_)
      · refine V_iconst (v := 0) hX dX5_has_22 (by decide) ?_
        refine V_selT (c := (8 : Int32) ≤ x2) (b := 1) hc3 ?_
        refine V_selF (c := (gI w a1 2) ≤ x2) (a := 0) hc4 ?_
        refine V_selF (c := x2 < 0) (a := 0) hc5 ?_
        exact k8
      · refine V_iconst (v := 1) hX dX5_has_18 (by decide) ?_
        refine V_goto (tgt := 23) hX dX5_has_19 (by decide) ?_
        refine V_selF (c := (8 : Int32) ≤ x2) (a := 0) hc3 ?_
        refine V_selF (c := (gI w a1 2) ≤ x2) (a := 0) hc4 ?_
        refine V_selF (c := x2 < 0) (a := 0) hc5 ?_
        exact k8
theorem c_X5_has (l : Launch) (S : Sx) {r : Int32 × Wd} {F : Nat} {w : Wd} {a1 : Nat} {x2 : Int32} (ha1 : isX5 a1 = true) (h : P_X5_has F w a1 x2 = some r) : Met l yX5_has (wsg yX5_has cX5_has 2 (some .boolean)) rm_X5_has (PC S w [rf S a1, .int x2]) (QCi S r) 0 0 (Aw S) :=
  met_i (by decide) rfl (Nat.le_of_ble_eq_true rfl) ⟨rfl, rfl⟩ (fun X hX hR => s_X5_has ha1 hX hR h)

-- MustNotStop$Roll.firstOf(I)I
abbrev rm_X5_firstOf : Room := { frames := 2, cells := 0, slots := 0, locals := 85 }
theorem nk_X5_firstOf : MNk yX5_firstOf RX5 1 := ⟨rfl, by decide, by decide, by decide +kernel⟩
def P_X5_firstOf (F : Nat) (w : Wd) (a1 : Nat) (x2 : Int32) : Option (Int32 × Wd) := bnd (P_X5_has F w a1 x2) (fun x4 w3 => (if x4 = 0 then some (0, w3) else gd (inB x2 8) (some (gI w3 (a1 + 1) x2.toNatClampNeg, w3))))
set_option maxRecDepth 100000 in
set_option maxHeartbeats 4000000 in
theorem s_X5_firstOf {X : Cx} {S : Sx} {r : Int32 × Wd} {F : Nat} {w : Wd} {a1 : Nat} {x2 : Int32} (ha1 : isX5 a1 = true) (hX : Ok X S cX5_firstOf RX5 2 rm_X5_firstOf) (hR : HRt X S cX5_firstOf .int r) (hP : P_X5_firstOf F w a1 x2 = some r) : V X S w 0 [(0, rf S a1), (1, .int x2)] [] := by
  unfold P_X5_firstOf at hP
  refine V_aload_n hX dX5_firstOf_0 0 rfl ?_
  refine V_iload_n hX dX5_firstOf_1 1 rfl ?_
  obtain ⟨x4, w3, hcw3, hP⟩ := bnd_e hP
  refine V_callVi (As := [.int x2]) (rest := []) hX mk_X5_22 nk_X5_has (fun l => c_X5_has l S ha1 hcw3) (tb_X5 ha1) rfl ⟨rfl, rfl, Nat.le_of_ble_eq_true rfl, Nat.le_of_ble_eq_true rfl⟩ rfl rfl (Nat.le_of_ble_eq_true rfl) dX5_firstOf_2 ?_
  refine V_if_eq (tgt := 17) hX dX5_firstOf_5 (by decide) (fun hc5 => ?_) (fun hc5 => ?_)
  · replace hP := ite_t hc5 hP
    refine V_iconst (v := 0) hX dX5_firstOf_17 (by decide) ?_
    exact hR _ _ _ _ (Option.some.inj hP) rfl dX5_firstOf_18
  · replace hP := ite_f hc5 hP
    refine V_aload_n hX dX5_firstOf_8 0 rfl ?_
    refine V_getF (j := a1 + 1) hX fk_X5_9 (tb_X5 ha1) (fun _ _ _ => rfl) dX5_firstOf_9 ?_
    refine V_iload_n hX dX5_firstOf_12 1 rfl ?_
    obtain ⟨hi6, hP⟩ := gd_e hP
    refine V_iald hX (tb_X5_1 ha1) hi6 dX5_firstOf_13 ?_
    refine V_goto (tgt := 18) hX dX5_firstOf_14 (by decide) ?_
    exact hR _ _ _ _ (Option.some.inj hP) rfl dX5_firstOf_18
theorem c_X5_firstOf (l : Launch) (S : Sx) {r : Int32 × Wd} {F : Nat} {w : Wd} {a1 : Nat} {x2 : Int32} (ha1 : isX5 a1 = true) (h : P_X5_firstOf F w a1 x2 = some r) : Met l yX5_firstOf (wsg yX5_firstOf cX5_firstOf 2 (some .int)) rm_X5_firstOf (PC S w [rf S a1, .int x2]) (QCi S r) 0 0 (Aw S) :=
  met_i (by decide) rfl (Nat.le_of_ble_eq_true rfl) ⟨rfl, rfl⟩ (fun X hX hR => s_X5_firstOf ha1 hX hR h)

-- MustNotStop$Tower.volume(LMustNotStop$Bell;I)I
abbrev rm_X9_volume : Room := { frames := 3, cells := 0, slots := 0, locals := 118 }
theorem nk_X9_volume : MNk yX9_volume RX9 2 := ⟨rfl, by decide, by decide, by decide +kernel⟩
def K_X9_volume_60 (F : Nat) (a1 : Nat) (a2 : Nat) (x3 : Int32) (k66 : Wd → Int32 → Int32 → Option (Int32 × Wd)) (rc : Wd → Int32 → Int32 → Int32 → Option (Int32 × Wd)) (w : Wd) (x13 : Int32) (x14 : Int32) (x15 : Int32) : Option (Int32 × Wd) := lt (x15 + 1 : Int32) (fun x16 => rc w x13 x14 x16)
set_option maxRecDepth 100000 in
set_option maxHeartbeats 4000000 in
theorem sK_X9_volume_60 {X : Cx} {S : Sx} {r : Int32 × Wd} {F : Nat} {a1 : Nat} {a2 : Nat} {x3 : Int32} {k66 : Wd → Int32 → Int32 → Option (Int32 × Wd)} {rc : Wd → Int32 → Int32 → Int32 → Option (Int32 × Wd)} {w : Wd} {x13 : Int32} {x14 : Int32} {x15 : Int32} (hX : Ok X S cX9_volume RX9 6 rm_X9_volume) (hR : HRt X S cX9_volume .int r) (ha1 : isX9 a1 = true) (ha2 : isX1 a2 = true) (hk66 : ∀ (w : Wd) (x9 : Int32) (x10 : Int32) , k66 w x9 x10 = some r → V X S w 66 [(0, rf S a1), (1, rf S a2), (2, .int x3), (3, .int x9), (4, .int x10)] []) (hrc : ∀ (w : Wd) (x6 : Int32) (x7 : Int32) (x8 : Int32) , rc w x6 x7 x8 = some r → V X S w 21 [(0, rf S a1), (1, rf S a2), (2, .int x3), (3, .int x6), (4, .int x7), (5, .int x8)] [])  (hP : K_X9_volume_60 F a1 a2 x3 k66 rc w x13 x14 x15 = some r) : V X S w 60 [(0, rf S a1), (1, rf S a2), (2, .int x3), (3, .int x13), (4, .int x14), (5, .int x15)] [] := by
  unfold K_X9_volume_60 at hP
  obtain ⟨x16, ex16⟩ : ∃ y : Int32, y = x15 + 1 := ⟨_, rfl⟩
  replace hP := lt_r ex16 hP
  refine V_iinc (v := x16) (lv' := [(5, .int x16), (0, rf S a1), (1, rf S a2), (2, .int x3), (3, .int x13), (4, .int x14)]) hX dX9_volume_60 (j := 5) rfl (by decide) (by rw [ex16]; rfl) rfl ?_
  refine V_goto (tgt := 21) hX dX9_volume_63 (by decide) ?_
  refine V_sub (lv' := [(0, rf S a1), (1, rf S a2), (2, .int x3), (3, .int x13), (4, .int x14), (5, .int x16)]) [1, 2, 3, 4, 5, 0] rfl ?_
  exact hrc _ _ _ _  hP
def L_X9_volume_21 (F : Nat) (a1 : Nat) (a2 : Nat) (x3 : Int32) (k66 : Wd → Int32 → Int32 → Option (Int32 × Wd)) : Nat → Wd → Int32 → Int32 → Int32 → Option (Int32 × Wd)
  | 0, _, _, _, _ => none
  | n + 1, w, x6, x7, x8 => (if (8 : Int32) ≤ x8 then k66 w x6 x7 else (if ((ishrI x3 x8) &&& 1) = 0 then K_X9_volume_60 F a1 a2 x3 k66 ((L_X9_volume_21 F a1 a2 x3 k66 n)) w x6 x7 x8 else bnd (P_X5_firstOf F w 6 x8) (fun x18 w17 => lt (x6 + x18 : Int32) (fun x19 => bnd (P_X1_tiredOf F w17 a2 x8) (fun x21 w20 => lt (x7 + x21 : Int32) (fun x22 => K_X9_volume_60 F a1 a2 x3 k66 ((L_X9_volume_21 F a1 a2 x3 k66 n)) w20 x19 x22 x8))))))
set_option maxRecDepth 100000 in
set_option maxHeartbeats 4000000 in
theorem sL_X9_volume_21 {X : Cx} {S : Sx} {r : Int32 × Wd} {F : Nat} {a1 : Nat} {a2 : Nat} {x3 : Int32} {k66 : Wd → Int32 → Int32 → Option (Int32 × Wd)} (hX : Ok X S cX9_volume RX9 6 rm_X9_volume) (hR : HRt X S cX9_volume .int r) (ha1 : isX9 a1 = true) (ha2 : isX1 a2 = true) (hk66 : ∀ (w : Wd) (x9 : Int32) (x10 : Int32) , k66 w x9 x10 = some r → V X S w 66 [(0, rf S a1), (1, rf S a2), (2, .int x3), (3, .int x9), (4, .int x10)] []) : ∀ (n : Nat) (w : Wd) (x6 : Int32) (x7 : Int32) (x8 : Int32) , L_X9_volume_21 F a1 a2 x3 k66 n w x6 x7 x8 = some r → V X S w 21 [(0, rf S a1), (1, rf S a2), (2, .int x3), (3, .int x6), (4, .int x7), (5, .int x8)] [] := by
  intro n
  induction n with
  | zero =>
    intro w x6 x7 x8  hP
    exact nn hP
  | succ n ih =>
    intro w x6 x7 x8  hP
    rw [L_X9_volume_21] at hP
    refine V_iload hX dX9_volume_21 5 rfl ?_
    refine V_bipush (v := 8) hX dX9_volume_23 (by decide) ?_
    refine V_icmp_ge (tgt := 66) hX dX9_volume_25 (by decide) (fun hc11 => ?_) (fun hc11 => ?_)
    · replace hP := ite_t hc11 hP
      refine V_sub (lv' := [(0, rf S a1), (1, rf S a2), (2, .int x3), (3, .int x6), (4, .int x7)]) [0, 1, 2, 3, 4] rfl ?_
      exact hk66 _ _ _  hP
    · replace hP := ite_f hc11 hP
      refine V_iload_n hX dX9_volume_28 2 rfl ?_
      refine V_iload hX dX9_volume_29 5 rfl ?_
      refine V_ishr hX dX9_volume_31 ?_
      refine V_iconst (v := 1) hX dX9_volume_32 (by decide) ?_
      refine V_iand hX dX9_volume_33 ?_
      refine V_if_eq (tgt := 60) hX dX9_volume_34 (by decide) (fun hc12 => ?_) (fun hc12 => ?_)
      · replace hP := ite_t hc12 hP
        exact sK_X9_volume_60 hX hR ha1 ha2 hk66 ih  hP
      · replace hP := ite_f hc12 hP
        refine V_iload_n hX dX9_volume_37 3 rfl ?_
        refine V_aload_n hX dX9_volume_38 0 rfl ?_
        refine V_getF (j := 6) hX fk_X9_21 (tb_X9 ha1) (fun _ _ _ => rfl) dX9_volume_39 ?_
        refine V_iload hX dX9_volume_42 5 rfl ?_
        obtain ⟨x18, w17, hcw17, hP⟩ := bnd_e hP
        refine V_callVi (As := [.int x8]) (rest := [.int x6]) hX mk_X9_37 nk_X5_firstOf (fun l => c_X5_firstOf l S (by decide) hcw17) tb_6 rfl ⟨rfl, rfl, Nat.le_of_ble_eq_true rfl, Nat.le_of_ble_eq_true rfl⟩ rfl rfl (Nat.le_of_ble_eq_true rfl) dX9_volume_44 ?_
        refine V_iadd hX dX9_volume_47 ?_
        refine V_topi (fun x19 ex19 => ?_)
        replace hP := lt_r ex19 hP
        refine V_istore_n (lv' := [(3, .int x19), (0, rf S a1), (1, rf S a2), (2, .int x3), (4, .int x7), (5, .int x8)]) hX dX9_volume_48 (by decide) rfl ?_
        refine V_iload hX dX9_volume_49 4 rfl ?_
        refine V_aload_n hX dX9_volume_51 2 rfl ?_
        refine V_iload hX dX9_volume_52 5 rfl ?_
        obtain ⟨x21, w20, hcw20, hP⟩ := bnd_e hP
        refine V_callVi (As := [.int x8]) (rest := [.int x7]) hX mk_X9_43 nk_X1_tiredOf (fun l => c_X1_tiredOf l S ha2 hcw20) (tb_X1 ha2) rfl ⟨rfl, rfl, Nat.le_of_ble_eq_true rfl, Nat.le_of_ble_eq_true rfl⟩ rfl rfl (Nat.le_of_ble_eq_true rfl) dX9_volume_54 ?_
        refine V_iadd hX dX9_volume_57 ?_
        refine V_topi (fun x22 ex22 => ?_)
        replace hP := lt_r ex22 hP
        refine V_istore (lv' := [(4, .int x22), (3, .int x19), (0, rf S a1), (1, rf S a2), (2, .int x3), (5, .int x8)]) hX dX9_volume_58 (by decide) rfl ?_
        refine V_sub (lv' := [(0, rf S a1), (1, rf S a2), (2, .int x3), (3, .int x19), (4, .int x22), (5, .int x8)]) [2, 3, 4, 1, 0, 5] rfl ?_
        exact sK_X9_volume_60 hX hR ha1 ha2 hk66 ih  hP
def P_X9_volume (F : Nat) (w : Wd) (a1 : Nat) (a2 : Nat) (x3 : Int32) : Option (Int32 × Wd) := (if x3 = 0 then some (0, w) else (if (gI w a2 2) = 0 then some (0, w) else L_X9_volume_21 F a1 a2 x3 (fun w x9 x10 => bnd (P_J6_bitCount_0f7a4 F w x3) (fun x24 w23 => lt (gR w23 a1 2) (fun a25 => gd (isX2 a25) (bnd (P_X2_value F w23 a25 x9 x10 x24 (gI w23 a1 3) (gI w23 a1 4) (gI w23 a2 2) (iremI (gI w23 a2 3) 60)) (fun x28 w27 => some (x28, w27)))))) F w 0 0 0))
set_option maxRecDepth 100000 in
set_option maxHeartbeats 4000000 in
theorem s_X9_volume {X : Cx} {S : Sx} {r : Int32 × Wd} {F : Nat} {w : Wd} {a1 : Nat} {a2 : Nat} {x3 : Int32} (ha1 : isX9 a1 = true) (ha2 : isX1 a2 = true) (hX : Ok X S cX9_volume RX9 6 rm_X9_volume) (hR : HRt X S cX9_volume .int r) (hP : P_X9_volume F w a1 a2 x3 = some r) : V X S w 0 [(0, rf S a1), (1, rf S a2), (2, .int x3)] [] := by
  unfold P_X9_volume at hP
  refine V_iload_n hX dX9_volume_0 2 rfl ?_
  refine V_if_eq (tgt := 11) hX dX9_volume_1 (by decide) (fun hc4 => ?_) (fun hc4 => ?_)
  · replace hP := ite_t hc4 hP
    refine V_iconst (v := 0) hX dX9_volume_11 (by decide) ?_
    exact hR _ _ _ _ (Option.some.inj hP) rfl dX9_volume_12
  · replace hP := ite_f hc4 hP
    refine V_aload_n hX dX9_volume_4 1 rfl ?_
    refine V_getI hX fk_X9_32 (tb_X1 ha2) (fun _ _ _ => rfl) dX9_volume_5 ?_
    refine V_if_ne (tgt := 13) hX dX9_volume_8 (by decide) (fun hc5 => ?_) (fun hc5 => ?_)
    · replace hP := ite_f hc5 hP
      refine V_iconst (v := 0) hX dX9_volume_13 (by decide) ?_
      refine V_istore_n (lv' := [(3, .int 0), (0, rf S a1), (1, rf S a2), (2, .int x3)]) hX dX9_volume_14 (by decide) rfl ?_
      refine V_iconst (v := 0) hX dX9_volume_15 (by decide) ?_
      refine V_istore (lv' := [(4, .int 0), (3, .int 0), (0, rf S a1), (1, rf S a2), (2, .int x3)]) hX dX9_volume_16 (by decide) rfl ?_
      refine V_iconst (v := 0) hX dX9_volume_18 (by decide) ?_
      refine V_istore (lv' := [(5, .int 0), (4, .int 0), (3, .int 0), (0, rf S a1), (1, rf S a2), (2, .int x3)]) hX dX9_volume_19 (by decide) rfl ?_
      refine V_sub (lv' := [(0, rf S a1), (1, rf S a2), (2, .int x3), (3, .int 0), (4, .int 0), (5, .int 0)]) [3, 4, 5, 2, 1, 0] rfl ?_
      have k29 : ∀ (w : Wd) (x9 : Int32) (x10 : Int32) , (bnd (P_J6_bitCount_0f7a4 F w x3) (fun x24 w23 => lt (gR w23 a1 2) (fun a25 => gd (isX2 a25) (bnd (P_X2_value F w23 a25 x9 x10 x24 (gI w23 a1 3) (gI w23 a1 4) (gI w23 a2 2) (iremI (gI w23 a2 3) 60)) (fun x28 w27 => some (x28, w27)))))) = some r → V X S w 66 [(0, rf S a1), (1, rf S a2), (2, .int x3), (3, .int x9), (4, .int x10)] [] := by
        intro w x9 x10  hP
        refine V_iload_n hX dX9_volume_66 2 rfl ?_
        obtain ⟨x24, w23, hcw23, hP⟩ := bnd_e hP
        refine V_callSi (As := [.int x3]) (rest := []) hX mk_X9_46 nk_J6_bitCount_0f7a4 (fun l => c_J6_bitCount_0f7a4 l S  hcw23) ⟨rfl, rfl, Nat.le_of_ble_eq_true rfl, Nat.le_of_ble_eq_true rfl⟩ rfl rfl (Nat.le_of_ble_eq_true rfl) dX9_volume_67 ?_
        refine V_istore (lv' := [(5, .int x24), (0, rf S a1), (1, rf S a2), (2, .int x3), (3, .int x9), (4, .int x10)]) hX dX9_volume_70 (by decide) rfl ?_
        refine V_aload_n hX dX9_volume_72 1 rfl ?_
        refine V_getD hX fk_X9_28 (tb_X9 ha1) (fun _ _ _ => rfl) dX9_volume_73 ?_
        refine V_topr (fun a25 ea25 => ?_)
        replace hP := lt_r ea25 hP
        obtain ⟨ha25, hP⟩ := gd_e hP
        refine V_iload_n hX dX9_volume_76 4 rfl ?_
        refine V_iload hX dX9_volume_77 5 rfl ?_
        refine V_iload hX dX9_volume_79 0 rfl ?_
        refine V_aload_n hX dX9_volume_81 1 rfl ?_
        refine V_getI hX fk_X9_9 (tb_X9 ha1) (fun _ _ _ => rfl) dX9_volume_82 ?_
        refine V_aload_n hX dX9_volume_85 1 rfl ?_
        refine V_getI hX fk_X9_15 (tb_X9 ha1) (fun _ _ _ => rfl) dX9_volume_86 ?_
        refine V_aload_n hX dX9_volume_89 2 rfl ?_
        refine V_getI hX fk_X9_32 (tb_X1 ha2) (fun _ _ _ => rfl) dX9_volume_90 ?_
        refine V_aload_n hX dX9_volume_93 2 rfl ?_
        refine V_getI hX fk_X9_51 (tb_X1 ha2) (fun _ _ _ => rfl) dX9_volume_94 ?_
        refine V_bipush (v := 60) hX dX9_volume_97 (by decide) ?_
        refine V_irem hX dX9_volume_99 (by decide) ?_
        obtain ⟨x28, w27, hcw27, hP⟩ := bnd_e hP
        refine V_callVi (As := [.int x9, .int x10, .int x24, .int (gI w23 a1 3), .int (gI w23 a1 4), .int (gI w23 a2 2), .int (iremI (gI w23 a2 3) 60)]) (rest := []) hX mk_X9_54 nk_X2_value (fun l => c_X2_value l S ha25 hcw27) (tb_X2 ha25) rfl ⟨rfl, rfl, Nat.le_of_ble_eq_true rfl, Nat.le_of_ble_eq_true rfl⟩ rfl rfl (Nat.le_of_ble_eq_true rfl) dX9_volume_100 ?_
        exact hR _ _ _ _ (Option.some.inj hP) rfl dX9_volume_103
      exact sL_X9_volume_21 hX hR ha1 ha2 k29 F _ _ _ _  hP
    · replace hP := ite_t hc5 hP
      refine V_iconst (v := 0) hX dX9_volume_11 (by decide) ?_
      exact hR _ _ _ _ (Option.some.inj hP) rfl dX9_volume_12
theorem c_X9_volume (l : Launch) (S : Sx) {r : Int32 × Wd} {F : Nat} {w : Wd} {a1 : Nat} {a2 : Nat} {x3 : Int32} (ha1 : isX9 a1 = true) (ha2 : isX1 a2 = true) (h : P_X9_volume F w a1 a2 x3 = some r) : Met l yX9_volume (wsg yX9_volume cX9_volume 6 (some .int)) rm_X9_volume (PC S w [rf S a1, rf S a2, .int x3]) (QCi S r) 0 0 (Aw S) :=
  met_i (by decide) rfl (Nat.le_of_ble_eq_true rfl) ⟨rfl, rfl⟩ (fun X hX hR => s_X9_volume ha1 ha2 hX hR h)

-- MustNotStop$Night.fits(II)Z
abbrev rm_X3_fits : Room := { frames := 1, cells := 0, slots := 0, locals := 64 }
theorem nk_X3_fits : MNk yX3_fits RX3 2 := ⟨rfl, by decide, by decide, by decide +kernel⟩
def K_X3_fits_65 (F : Nat) (x1 : Int32) (x2 : Int32) (k71 : Wd → Option (Int32 × Wd)) (rc : Wd → Int32 → Option (Int32 × Wd)) (w : Wd) (x11 : Int32) : Option (Int32 × Wd) := lt (x11 + 1 : Int32) (fun x12 => rc w x12)
set_option maxRecDepth 100000 in
set_option maxHeartbeats 4000000 in
theorem sK_X3_fits_65 {X : Cx} {S : Sx} {r : Int32 × Wd} {F : Nat} {x1 : Int32} {x2 : Int32} {k71 : Wd → Option (Int32 × Wd)} {rc : Wd → Int32 → Option (Int32 × Wd)} {w : Wd} {x11 : Int32} (hX : Ok X S cX3_fits RX3 5 rm_X3_fits) (hR : HRt X S cX3_fits .boolean r)  (hk71 : ∀ (w : Wd), k71 w = some r → V X S w 71 [] []) (hrc : ∀ (w : Wd) (x3 : Int32) , rc w x3 = some r → V X S w 2 [(0, rf S 76), (1, .int x1), (2, .int x2), (3, .int x3)] [])  (hP : K_X3_fits_65 F x1 x2 k71 rc w x11 = some r) : V X S w 65 [(0, rf S 76), (1, .int x1), (2, .int x2), (3, .int x11)] [] := by
  unfold K_X3_fits_65 at hP
  obtain ⟨x12, ex12⟩ : ∃ y : Int32, y = x11 + 1 := ⟨_, rfl⟩
  replace hP := lt_r ex12 hP
  refine V_iinc (v := x12) (lv' := [(3, .int x12), (0, rf S 76), (1, .int x1), (2, .int x2)]) hX dX3_fits_65 (j := 3) rfl (by decide) (by rw [ex12]; rfl) rfl ?_
  refine V_goto (tgt := 2) hX dX3_fits_68 (by decide) ?_
  refine V_sub (lv' := [(0, rf S 76), (1, .int x1), (2, .int x2), (3, .int x12)]) [1, 2, 3, 0] rfl ?_
  exact hrc _ _  hP
def L_X3_fits_2 (F : Nat) (x1 : Int32) (x2 : Int32) (k71 : Wd → Option (Int32 × Wd)) : Nat → Wd → Int32 → Option (Int32 × Wd)
  | 0, _, _ => none
  | n + 1, w, x3 => (if (gI w 76 3) ≤ x3 then k71 w  else (if (12 : Int32) ≤ x3 then k71 w  else gd (inB x3 12) (lt (if x2 < (gI w 78 x3.toNatClampNeg) then 0 else 1 : Int32) (fun x8 => gd (inB x3 12) ((if (gI w 77 x3.toNatClampNeg) = x1 then gd (inB x3 12) (lt (if (gI w 79 x3.toNatClampNeg) = 1 then 1 else 0 : Int32) (fun x15 => (if x8 = x15 then K_X3_fits_65 F x1 x2 k71 ((L_X3_fits_2 F x1 x2 k71 n)) w x3 else some (0, w)))) else K_X3_fits_65 F x1 x2 k71 ((L_X3_fits_2 F x1 x2 k71 n)) w x3))))))
set_option maxRecDepth 100000 in
set_option maxHeartbeats 4000000 in
theorem sL_X3_fits_2 {X : Cx} {S : Sx} {r : Int32 × Wd} {F : Nat} {x1 : Int32} {x2 : Int32} {k71 : Wd → Option (Int32 × Wd)} (hX : Ok X S cX3_fits RX3 5 rm_X3_fits) (hR : HRt X S cX3_fits .boolean r)  (hk71 : ∀ (w : Wd), k71 w = some r → V X S w 71 [] []) : ∀ (n : Nat) (w : Wd) (x3 : Int32) , L_X3_fits_2 F x1 x2 k71 n w x3 = some r → V X S w 2 [(0, rf S 76), (1, .int x1), (2, .int x2), (3, .int x3)] [] := by
  intro n
  induction n with
  | zero =>
    intro w x3  hP
    exact nn hP
  | succ n ih =>
    intro w x3  hP
    rw [L_X3_fits_2] at hP
    refine V_iload_n hX dX3_fits_2 3 rfl ?_
    refine V_aload_n hX dX3_fits_3 0 rfl ?_
    refine V_getI hX fk_X3_21 tb_76 (fun _ _ _ => rfl) dX3_fits_4 ?_
    refine V_icmp_ge (tgt := 71) hX dX3_fits_7 (by decide) (fun hc4 => ?_) (fun hc4 => ?_)
    · replace hP := ite_t hc4 hP
      refine V_sub (lv' := []) [] rfl ?_
      exact hk71 _   hP
    · replace hP := ite_f hc4 hP
      refine V_iload_n hX dX3_fits_10 3 rfl ?_
      refine V_bipush (v := 12) hX dX3_fits_11 (by decide) ?_
      refine V_icmp_ge (tgt := 71) hX dX3_fits_13 (by decide) (fun hc5 => ?_) (fun hc5 => ?_)
      · replace hP := ite_t hc5 hP
        refine V_sub (lv' := []) [] rfl ?_
        exact hk71 _   hP
      · replace hP := ite_f hc5 hP
        refine V_iload_n hX dX3_fits_16 2 rfl ?_
        refine V_aload_n hX dX3_fits_17 0 rfl ?_
        refine V_getF (j := 78) hX fk_X3_15 tb_76 (fun _ _ _ => rfl) dX3_fits_18 ?_
        refine V_iload_n hX dX3_fits_21 3 rfl ?_
        obtain ⟨hi6, hP⟩ := gd_e hP
        refine V_iald hX tb_78 hi6 dX3_fits_22 ?_
        have k18 : V X S w 31 [(0, rf S 76), (1, .int x1), (2, .int x2), (3, .int x3)] [.int (if x2 < (gI w 78 x3.toNatClampNeg) then 0 else 1)] := by
          refine V_topi (fun x8 ex8 => ?_)
          replace hP := lt_r ex8 hP
          refine V_istore (lv' := [(4, .int x8), (0, rf S 76), (1, .int x1), (2, .int x2), (3, .int x3)]) hX dX3_fits_31 (by decide) rfl ?_
          refine V_aload_n hX dX3_fits_33 1 rfl ?_
          refine V_getF (j := 77) hX fk_X3_11 tb_76 (fun _ _ _ => rfl) dX3_fits_34 ?_
          refine V_iload_n hX dX3_fits_37 4 rfl ?_
          obtain ⟨hi9, hP⟩ := gd_e hP
          refine V_iald hX tb_77 hi9 dX3_fits_38 ?_
          refine V_iload_n hX dX3_fits_39 2 rfl ?_
          refine V_icmp_ne (tgt := 65) hX dX3_fits_40 (by decide) (fun hc10 => ?_) (fun hc10 => ?_)
          · replace hP := ite_f hc10 hP
            refine V_sub (lv' := [(0, rf S 76), (1, .int x1), (2, .int x2), (3, .int x3)]) [1, 2, 3, 4] rfl ?_
            exact sK_X3_fits_65 hX hR  hk71 ih  hP
          · replace hP := ite_t hc10 hP
            refine V_iload hX dX3_fits_43 0 rfl ?_
            refine V_aload_n hX dX3_fits_45 1 rfl ?_
            refine V_getF (j := 79) hX fk_X3_18 tb_76 (fun _ _ _ => rfl) dX3_fits_46 ?_
            refine V_iload_n hX dX3_fits_49 4 rfl ?_
            obtain ⟨hi13, hP⟩ := gd_e hP
            refine V_iald hX tb_79 hi13 dX3_fits_50 ?_
            refine V_iconst (v := 1) hX dX3_fits_51 (by decide) ?_
            have k17 : V X S w 60 [(4, .int x8), (0, rf S 76), (1, .int x1), (2, .int x2), (3, .int x3)] [.int (if (gI w 79 x3.toNatClampNeg) = 1 then 1 else 0), .int x8] := by
              refine V_topi (fun x15 ex15 => ?_)
              replace hP := lt_r ex15 hP
              refine V_icmp_eq (tgt := 65) hX dX3_fits_60 (by decide) (fun hc16 => ?_) (fun hc16 => ?_)
              · replace hP := ite_t hc16 hP
                refine V_sub (lv' := [(0, rf S 76), (1, .int x1), (2, .int x2), (3, .int x3)]) [1, 2, 3, 4] rfl ?_
                exact sK_X3_fits_65 hX hR  hk71 ih  hP
              · replace hP := ite_f hc16 hP
                refine V_iconst (v := 0) hX dX3_fits_63 (by decide) ?_
                exact hR _ _ _ _ (Option.some.inj hP) rfl dX3_fits_64
            refine V_icmp_ne (tgt := 59) hX dX3_fits_52 (by decide) (fun hc14 => ?_) (fun hc14 => ?_)
            · refine V_iconst (v := 0) hX dX3_fits_59 (by decide) ?_
              refine V_selF (c := (gI w 79 x3.toNatClampNeg) = 1) (a := 1) hc14 ?_
              exact k17
            · refine V_iconst (v := 1) hX dX3_fits_55 (by decide) ?_
              refine V_goto (tgt := 60) hX dX3_fits_56 (by decide) ?_
              refine V_selT (c := (gI w 79 x3.toNatClampNeg) = 1) (b := 0) hc14 ?_
              exact k17
        refine V_icmp_lt (tgt := 30) hX dX3_fits_23 (by decide) (fun hc7 => ?_) (fun hc7 => ?_)
        · refine V_iconst (v := 0) hX dX3_fits_30 (by decide) ?_
          refine V_selT (c := x2 < (gI w 78 x3.toNatClampNeg)) (b := 1) hc7 ?_
          exact k18
        · refine V_iconst (v := 1) hX dX3_fits_26 (by decide) ?_
          refine V_goto (tgt := 31) hX dX3_fits_27 (by decide) ?_
          refine V_selF (c := x2 < (gI w 78 x3.toNatClampNeg)) (a := 0) hc7 ?_
          exact k18
def P_X3_fits (F : Nat) (w : Wd) (x1 : Int32) (x2 : Int32) : Option (Int32 × Wd) := L_X3_fits_2 F x1 x2 (fun w  => some (1, w)) F w 0
set_option maxRecDepth 100000 in
set_option maxHeartbeats 4000000 in
theorem s_X3_fits {X : Cx} {S : Sx} {r : Int32 × Wd} {F : Nat} {w : Wd} {x1 : Int32} {x2 : Int32}  (hX : Ok X S cX3_fits RX3 5 rm_X3_fits) (hR : HRt X S cX3_fits .boolean r) (hP : P_X3_fits F w x1 x2 = some r) : V X S w 0 [(0, rf S 76), (1, .int x1), (2, .int x2)] [] := by
  unfold P_X3_fits at hP
  refine V_iconst (v := 0) hX dX3_fits_0 (by decide) ?_
  refine V_istore_n (lv' := [(3, .int 0), (0, rf S 76), (1, .int x1), (2, .int x2)]) hX dX3_fits_1 (by decide) rfl ?_
  refine V_sub (lv' := [(0, rf S 76), (1, .int x1), (2, .int x2), (3, .int 0)]) [1, 2, 3, 0] rfl ?_
  have k19 : ∀ (w : Wd)  , (some (1, w)) = some r → V X S w 71 [] [] := by
    intro w   hP
    refine V_iconst (v := 1) hX dX3_fits_71 (by decide) ?_
    exact hR _ _ _ _ (Option.some.inj hP) rfl dX3_fits_72
  exact sL_X3_fits_2 hX hR  k19 F _ _  hP
theorem c_X3_fits (l : Launch) (S : Sx) {r : Int32 × Wd} {F : Nat} {w : Wd} {x1 : Int32} {x2 : Int32}  (h : P_X3_fits F w x1 x2 = some r) : Met l yX3_fits (wsg yX3_fits cX3_fits 5 (some .boolean)) rm_X3_fits (PC S w [rf S 76, .int x1, .int x2]) (QCi S r) 0 0 (Aw S) :=
  met_i (by decide) rfl (Nat.le_of_ble_eq_true rfl) ⟨rfl, rfl⟩ (fun X hX hR => s_X3_fits  hX hR h)

-- MustNotStop$Night.waysOf([III)I
abbrev rm_X3_waysOf : Room := { frames := 1, cells := 0, slots := 0, locals := 64 }
theorem nk_X3_waysOf : MNk yX3_waysOf RX3 3 := ⟨rfl, by decide, by decide, by decide +kernel⟩
def P_X3_waysOf (F : Nat) (w : Wd) (a1 : Nat) (x2 : Int32) (x3 : Int32) : Option (Int32 × Wd) := lt ((x2 * 8) + x3 : Int32) (fun x4 => (if x4 < 0 then some (0, w) else (if (Int32.ofNat (alen a1)) ≤ x4 then some (0, w) else gd (inB x4 (alen a1)) (some (gI w a1 x4.toNatClampNeg, w)))))
set_option maxRecDepth 100000 in
set_option maxHeartbeats 4000000 in
theorem s_X3_waysOf {X : Cx} {S : Sx} {r : Int32 × Wd} {F : Nat} {w : Wd} {a1 : Nat} {x2 : Int32} {x3 : Int32} (ha1 : isIA a1 = true) (hX : Ok X S cX3_waysOf RX3 4 rm_X3_waysOf) (hR : HRt X S cX3_waysOf .int r) (hP : P_X3_waysOf F w a1 x2 x3 = some r) : V X S w 0 [(0, rf S a1), (1, .int x2), (2, .int x3)] [] := by
  unfold P_X3_waysOf at hP
  refine V_iload_n hX dX3_waysOf_0 1 rfl ?_
  refine V_bipush (v := 8) hX dX3_waysOf_1 (by decide) ?_
  refine V_imul hX dX3_waysOf_3 ?_
  refine V_iload_n hX dX3_waysOf_4 2 rfl ?_
  refine V_iadd hX dX3_waysOf_5 ?_
  refine V_topi (fun x4 ex4 => ?_)
  replace hP := lt_r ex4 hP
  refine V_istore_n (lv' := [(3, .int x4), (0, rf S a1), (1, .int x2), (2, .int x3)]) hX dX3_waysOf_6 (by decide) rfl ?_
  refine V_iload_n hX dX3_waysOf_7 0 rfl ?_
  refine V_if_lt (tgt := 23) hX dX3_waysOf_8 (by decide) (fun hc5 => ?_) (fun hc5 => ?_)
  · replace hP := ite_t hc5 hP
    refine V_iconst (v := 0) hX dX3_waysOf_23 (by decide) ?_
    exact hR _ _ _ _ (Option.some.inj hP) rfl dX3_waysOf_24
  · replace hP := ite_f hc5 hP
    refine V_iload_n hX dX3_waysOf_11 0 rfl ?_
    refine V_aload_n hX dX3_waysOf_12 1 rfl ?_
    refine V_alenI (v := Int32.ofNat (alen a1)) hX (tb_IA ha1) rfl dX3_waysOf_13 ?_
    refine V_icmp_ge (tgt := 23) hX dX3_waysOf_14 (by decide) (fun hc6 => ?_) (fun hc6 => ?_)
    · replace hP := ite_t hc6 hP
      refine V_iconst (v := 0) hX dX3_waysOf_23 (by decide) ?_
      exact hR _ _ _ _ (Option.some.inj hP) rfl dX3_waysOf_24
    · replace hP := ite_f hc6 hP
      refine V_aload_n hX dX3_waysOf_17 1 rfl ?_
      refine V_iload_n hX dX3_waysOf_18 0 rfl ?_
      obtain ⟨hi7, hP⟩ := gd_e hP
      refine V_iald hX (tb_IA ha1) hi7 dX3_waysOf_19 ?_
      refine V_goto (tgt := 24) hX dX3_waysOf_20 (by decide) ?_
      exact hR _ _ _ _ (Option.some.inj hP) rfl dX3_waysOf_24
theorem c_X3_waysOf (l : Launch) (S : Sx) {r : Int32 × Wd} {F : Nat} {w : Wd} {a1 : Nat} {x2 : Int32} {x3 : Int32} (ha1 : isIA a1 = true) (h : P_X3_waysOf F w a1 x2 x3 = some r) : Met l yX3_waysOf (wsg yX3_waysOf cX3_waysOf 4 (some .int)) rm_X3_waysOf (PC S w [rf S a1, .int x2, .int x3]) (QCi S r) 0 0 (Aw S) :=
  met_i (by decide) rfl (Nat.le_of_ble_eq_true rfl) ⟨rfl, rfl⟩ (fun X hX hR => s_X3_waysOf ha1 hX hR h)

-- MustNotStop$Night.sum([II)I
abbrev rm_X3_sum : Room := { frames := 2, cells := 0, slots := 0, locals := 87 }
theorem nk_X3_sum : MNk yX3_sum RX3 2 := ⟨rfl, by decide, by decide, by decide +kernel⟩
def L_X3_sum_4 (F : Nat) (a1 : Nat) (x2 : Int32) (k25 : Wd → Int32 → Option (Int32 × Wd)) : Nat → Wd → Int32 → Int32 → Option (Int32 × Wd)
  | 0, _, _, _ => none
  | n + 1, w, x3, x4 => (if (8 : Int32) ≤ x4 then k25 w x3 else bnd (P_X3_waysOf F w a1 x2 x4) (fun x8 w7 => lt (x3 + x8 : Int32) (fun x9 => lt (x4 + 1 : Int32) (fun x10 => L_X3_sum_4 F a1 x2 k25 n w7 x9 x10))))
set_option maxRecDepth 100000 in
set_option maxHeartbeats 4000000 in
theorem sL_X3_sum_4 {X : Cx} {S : Sx} {r : Int32 × Wd} {F : Nat} {a1 : Nat} {x2 : Int32} {k25 : Wd → Int32 → Option (Int32 × Wd)} (hX : Ok X S cX3_sum RX3 4 rm_X3_sum) (hR : HRt X S cX3_sum .int r) (ha1 : isIA a1 = true) (hk25 : ∀ (w : Wd) (x5 : Int32) , k25 w x5 = some r → V X S w 25 [(2, .int x5)] []) : ∀ (n : Nat) (w : Wd) (x3 : Int32) (x4 : Int32) , L_X3_sum_4 F a1 x2 k25 n w x3 x4 = some r → V X S w 4 [(0, rf S a1), (1, .int x2), (2, .int x3), (3, .int x4)] [] := by
  intro n
  induction n with
  | zero =>
    intro w x3 x4  hP
    exact nn hP
  | succ n ih =>
    intro w x3 x4  hP
    rw [L_X3_sum_4] at hP
    refine V_iload_n hX dX3_sum_4 3 rfl ?_
    refine V_bipush (v := 8) hX dX3_sum_5 (by decide) ?_
    refine V_icmp_ge (tgt := 25) hX dX3_sum_7 (by decide) (fun hc6 => ?_) (fun hc6 => ?_)
    · replace hP := ite_t hc6 hP
      refine V_sub (lv' := [(2, .int x3)]) [2] rfl ?_
      exact hk25 _ _  hP
    · replace hP := ite_f hc6 hP
      refine V_iload_n hX dX3_sum_10 2 rfl ?_
      refine V_aload_n hX dX3_sum_11 0 rfl ?_
      refine V_iload_n hX dX3_sum_12 1 rfl ?_
      refine V_iload_n hX dX3_sum_13 3 rfl ?_
      obtain ⟨x8, w7, hcw7, hP⟩ := bnd_e hP
      refine V_callSi (As := [rf S a1, .int x2, .int x4]) (rest := [.int x3]) hX mk_X3_59 nk_X3_waysOf (fun l => c_X3_waysOf l S ha1 hcw7) ⟨rfl, rfl, Nat.le_of_ble_eq_true rfl, Nat.le_of_ble_eq_true rfl⟩ rfl rfl (Nat.le_of_ble_eq_true rfl) dX3_sum_14 ?_
      refine V_iadd hX dX3_sum_17 ?_
      refine V_topi (fun x9 ex9 => ?_)
      replace hP := lt_r ex9 hP
      refine V_istore_n (lv' := [(2, .int x9), (0, rf S a1), (1, .int x2), (3, .int x4)]) hX dX3_sum_18 (by decide) rfl ?_
      obtain ⟨x10, ex10⟩ : ∃ y : Int32, y = x4 + 1 := ⟨_, rfl⟩
      replace hP := lt_r ex10 hP
      refine V_iinc (v := x10) (lv' := [(3, .int x10), (2, .int x9), (0, rf S a1), (1, .int x2)]) hX dX3_sum_19 (j := 3) rfl (by decide) (by rw [ex10]; rfl) rfl ?_
      refine V_goto (tgt := 4) hX dX3_sum_22 (by decide) ?_
      refine V_sub (lv' := [(0, rf S a1), (1, .int x2), (2, .int x9), (3, .int x10)]) [2, 3, 1, 0] rfl ?_
      exact ih _ _ _  hP
def P_X3_sum (F : Nat) (w : Wd) (a1 : Nat) (x2 : Int32) : Option (Int32 × Wd) := L_X3_sum_4 F a1 x2 (fun w x5 => some (x5, w)) F w 0 0
set_option maxRecDepth 100000 in
set_option maxHeartbeats 4000000 in
theorem s_X3_sum {X : Cx} {S : Sx} {r : Int32 × Wd} {F : Nat} {w : Wd} {a1 : Nat} {x2 : Int32} (ha1 : isIA a1 = true) (hX : Ok X S cX3_sum RX3 4 rm_X3_sum) (hR : HRt X S cX3_sum .int r) (hP : P_X3_sum F w a1 x2 = some r) : V X S w 0 [(0, rf S a1), (1, .int x2)] [] := by
  unfold P_X3_sum at hP
  refine V_iconst (v := 0) hX dX3_sum_0 (by decide) ?_
  refine V_istore_n (lv' := [(2, .int 0), (0, rf S a1), (1, .int x2)]) hX dX3_sum_1 (by decide) rfl ?_
  refine V_iconst (v := 0) hX dX3_sum_2 (by decide) ?_
  refine V_istore_n (lv' := [(3, .int 0), (2, .int 0), (0, rf S a1), (1, .int x2)]) hX dX3_sum_3 (by decide) rfl ?_
  refine V_sub (lv' := [(0, rf S a1), (1, .int x2), (2, .int 0), (3, .int 0)]) [2, 3, 1, 0] rfl ?_
  have k11 : ∀ (w : Wd) (x5 : Int32) , (some (x5, w)) = some r → V X S w 25 [(2, .int x5)] [] := by
    intro w x5  hP
    refine V_iload_n hX dX3_sum_25 0 rfl ?_
    exact hR _ _ _ _ (Option.some.inj hP) rfl dX3_sum_26
  exact sL_X3_sum_4 hX hR ha1 k11 F _ _ _  hP
theorem c_X3_sum (l : Launch) (S : Sx) {r : Int32 × Wd} {F : Nat} {w : Wd} {a1 : Nat} {x2 : Int32} (ha1 : isIA a1 = true) (h : P_X3_sum F w a1 x2 = some r) : Met l yX3_sum (wsg yX3_sum cX3_sum 4 (some .int)) rm_X3_sum (PC S w [rf S a1, .int x2]) (QCi S r) 0 0 (Aw S) :=
  met_i (by decide) rfl (Nat.le_of_ble_eq_true rfl) ⟨rfl, rfl⟩ (fun X hX hR => s_X3_sum ha1 hX hR h)

-- MustNotStop$Night.goOn([III)V
abbrev rm_X3_goOn : Room := { frames := 3, cells := 0, slots := 0, locals := 110 }
theorem nk_X3_goOn : MNk yX3_goOn RX3 3 := ⟨rfl, by decide, by decide, by decide +kernel⟩
def K_X3_goOn_53 (F : Nat) (a1 : Nat) (x2 : Int32) (x3 : Int32) (x6 : Int32) (k59 : Wd → Option (Wd)) (rc : Wd → Int32 → Option (Wd)) (w : Wd) (x11 : Int32) : Option (Wd) := lt (x11 + 1 : Int32) (fun x12 => rc w x12)
set_option maxRecDepth 100000 in
set_option maxHeartbeats 4000000 in
theorem sK_X3_goOn_53 {X : Cx} {S : Sx} {r : Wd} {F : Nat} {a1 : Nat} {x2 : Int32} {x3 : Int32} {x6 : Int32} {k59 : Wd → Option (Wd)} {rc : Wd → Int32 → Option (Wd)} {w : Wd} {x11 : Int32} (hX : Ok X S cX3_goOn RX3 6 rm_X3_goOn) (hR : HRv X S cX3_goOn r) (ha1 : isIA a1 = true) (hk59 : ∀ (w : Wd), k59 w = some r → V X S w 59 [] []) (hrc : ∀ (w : Wd) (x7 : Int32) , rc w x7 = some r → V X S w 9 [(0, rf S a1), (1, .int x2), (2, .int x3), (3, .int x6), (4, .int x7)] [])  (hP : K_X3_goOn_53 F a1 x2 x3 x6 k59 rc w x11 = some r) : V X S w 53 [(0, rf S a1), (1, .int x2), (2, .int x3), (3, .int x6), (4, .int x11)] [] := by
  unfold K_X3_goOn_53 at hP
  obtain ⟨x12, ex12⟩ : ∃ y : Int32, y = x11 + 1 := ⟨_, rfl⟩
  replace hP := lt_r ex12 hP
  refine V_iinc (v := x12) (lv' := [(4, .int x12), (0, rf S a1), (1, .int x2), (2, .int x3), (3, .int x6)]) hX dX3_goOn_53 (j := 4) rfl (by decide) (by rw [ex12]; rfl) rfl ?_
  refine V_goto (tgt := 9) hX dX3_goOn_56 (by decide) ?_
  refine V_sub (lv' := [(0, rf S a1), (1, .int x2), (2, .int x3), (3, .int x6), (4, .int x12)]) [1, 2, 3, 4, 0] rfl ?_
  exact hrc _ _  hP
def L_X3_goOn_9 (F : Nat) (a1 : Nat) (x2 : Int32) (x3 : Int32) (x6 : Int32) (k59 : Wd → Option (Wd)) : Nat → Wd → Int32 → Option (Wd)
  | 0, _, _ => none
  | n + 1, w, x7 => (if (8 : Int32) ≤ x7 then k59 w  else lt ((x3 * 8) + x7 : Int32) (fun x9 => (if x9 < 0 then K_X3_goOn_53 F a1 x2 x3 x6 k59 ((L_X3_goOn_9 F a1 x2 x3 x6 k59 n)) w x7 else (if (Int32.ofNat (alen a1)) ≤ x9 then K_X3_goOn_53 F a1 x2 x3 x6 k59 ((L_X3_goOn_9 F a1 x2 x3 x6 k59 n)) w x7 else gd (inB x9 (alen a1)) (bnd (P_X3_waysOf F w a1 x2 x7) (fun x16 w15 => gd (inB x9 (alen a1)) (lt (sI w15 a1 x9.toNatClampNeg ((gI w a1 x9.toNatClampNeg) * (x6 - x16))) (fun w18 => K_X3_goOn_53 F a1 x2 x3 x6 k59 ((L_X3_goOn_9 F a1 x2 x3 x6 k59 n)) w18 x7))))))))
set_option maxRecDepth 100000 in
set_option maxHeartbeats 4000000 in
theorem sL_X3_goOn_9 {X : Cx} {S : Sx} {r : Wd} {F : Nat} {a1 : Nat} {x2 : Int32} {x3 : Int32} {x6 : Int32} {k59 : Wd → Option (Wd)} (hX : Ok X S cX3_goOn RX3 6 rm_X3_goOn) (hR : HRv X S cX3_goOn r) (ha1 : isIA a1 = true) (hk59 : ∀ (w : Wd), k59 w = some r → V X S w 59 [] []) : ∀ (n : Nat) (w : Wd) (x7 : Int32) , L_X3_goOn_9 F a1 x2 x3 x6 k59 n w x7 = some r → V X S w 9 [(0, rf S a1), (1, .int x2), (2, .int x3), (3, .int x6), (4, .int x7)] [] := by
  intro n
  induction n with
  | zero =>
    intro w x7  hP
    exact nn hP
  | succ n ih =>
    intro w x7  hP
    rw [L_X3_goOn_9] at hP
    refine V_iload hX dX3_goOn_9 4 rfl ?_
    refine V_bipush (v := 8) hX dX3_goOn_11 (by decide) ?_
    refine V_icmp_ge (tgt := 59) hX dX3_goOn_13 (by decide) (fun hc8 => ?_) (fun hc8 => ?_)
    · replace hP := ite_t hc8 hP
      refine V_sub (lv' := []) [] rfl ?_
      exact hk59 _   hP
    · replace hP := ite_f hc8 hP
      refine V_iload_n hX dX3_goOn_16 2 rfl ?_
      refine V_bipush (v := 8) hX dX3_goOn_17 (by decide) ?_
      refine V_imul hX dX3_goOn_19 ?_
      refine V_iload hX dX3_goOn_20 4 rfl ?_
      refine V_iadd hX dX3_goOn_22 ?_
      refine V_topi (fun x9 ex9 => ?_)
      replace hP := lt_r ex9 hP
      refine V_istore (lv' := [(5, .int x9), (0, rf S a1), (1, .int x2), (2, .int x3), (3, .int x6), (4, .int x7)]) hX dX3_goOn_23 (by decide) rfl ?_
      refine V_iload hX dX3_goOn_25 0 rfl ?_
      refine V_if_lt (tgt := 53) hX dX3_goOn_27 (by decide) (fun hc10 => ?_) (fun hc10 => ?_)
      · replace hP := ite_t hc10 hP
        refine V_sub (lv' := [(0, rf S a1), (1, .int x2), (2, .int x3), (3, .int x6), (4, .int x7)]) [1, 2, 3, 4, 5] rfl ?_
        exact sK_X3_goOn_53 hX hR ha1 hk59 ih  hP
      · replace hP := ite_f hc10 hP
        refine V_iload hX dX3_goOn_30 0 rfl ?_
        refine V_aload_n hX dX3_goOn_32 1 rfl ?_
        refine V_alenI (v := Int32.ofNat (alen a1)) hX (tb_IA ha1) rfl dX3_goOn_33 ?_
        refine V_icmp_ge (tgt := 53) hX dX3_goOn_34 (by decide) (fun hc13 => ?_) (fun hc13 => ?_)
        · replace hP := ite_t hc13 hP
          refine V_sub (lv' := [(0, rf S a1), (1, .int x2), (2, .int x3), (3, .int x6), (4, .int x7)]) [1, 2, 3, 4, 5] rfl ?_
          exact sK_X3_goOn_53 hX hR ha1 hk59 ih  hP
        · replace hP := ite_f hc13 hP
          refine V_aload_n hX dX3_goOn_37 1 rfl ?_
          refine V_iload hX dX3_goOn_38 0 rfl ?_
          refine V_dup2 hX dX3_goOn_40 rfl rfl ?_
          obtain ⟨hi14, hP⟩ := gd_e hP
          refine V_iald hX (tb_IA ha1) hi14 dX3_goOn_41 ?_
          refine V_iload_n hX dX3_goOn_42 4 rfl ?_
          refine V_aload_n hX dX3_goOn_43 1 rfl ?_
          refine V_iload_n hX dX3_goOn_44 2 rfl ?_
          refine V_iload hX dX3_goOn_45 5 rfl ?_
          obtain ⟨x16, w15, hcw15, hP⟩ := bnd_e hP
          refine V_callSi (As := [rf S a1, .int x2, .int x7]) (rest := [.int x6, .int (gI w a1 x9.toNatClampNeg), .int x9, rf S a1]) hX mk_X3_59 nk_X3_waysOf (fun l => c_X3_waysOf l S ha1 hcw15) ⟨rfl, rfl, Nat.le_of_ble_eq_true rfl, Nat.le_of_ble_eq_true rfl⟩ rfl rfl (Nat.le_of_ble_eq_true rfl) dX3_goOn_47 ?_
          refine V_isub hX dX3_goOn_50 ?_
          refine V_imul hX dX3_goOn_51 ?_
          obtain ⟨hi17, hP⟩ := gd_e hP
          refine V_iast hX (tb_IA ha1) hi17 dX3_goOn_52 (fun w18 ew18 => ?_)
          replace hP := lt_r ew18 hP
          refine V_sub (lv' := [(0, rf S a1), (1, .int x2), (2, .int x3), (3, .int x6), (4, .int x7)]) [1, 2, 3, 4, 5] rfl ?_
          exact sK_X3_goOn_53 hX hR ha1 hk59 ih  hP
def P_X3_goOn (F : Nat) (w : Wd) (a1 : Nat) (x2 : Int32) (x3 : Int32) : Option (Wd) := bnd (P_X3_sum F w a1 x2) (fun x5 w4 => L_X3_goOn_9 F a1 x2 x3 x5 (fun w  => some w) F w4 0)
set_option maxRecDepth 100000 in
set_option maxHeartbeats 4000000 in
theorem s_X3_goOn {X : Cx} {S : Sx} {r : Wd} {F : Nat} {w : Wd} {a1 : Nat} {x2 : Int32} {x3 : Int32} (ha1 : isIA a1 = true) (hX : Ok X S cX3_goOn RX3 6 rm_X3_goOn) (hR : HRv X S cX3_goOn r) (hP : P_X3_goOn F w a1 x2 x3 = some r) : V X S w 0 [(0, rf S a1), (1, .int x2), (2, .int x3)] [] := by
  unfold P_X3_goOn at hP
  refine V_aload_n hX dX3_goOn_0 0 rfl ?_
  refine V_iload_n hX dX3_goOn_1 1 rfl ?_
  obtain ⟨x5, w4, hcw4, hP⟩ := bnd_e hP
  refine V_callSi (As := [rf S a1, .int x2]) (rest := []) hX mk_X3_55 nk_X3_sum (fun l => c_X3_sum l S ha1 hcw4) ⟨rfl, rfl, Nat.le_of_ble_eq_true rfl, Nat.le_of_ble_eq_true rfl⟩ rfl rfl (Nat.le_of_ble_eq_true rfl) dX3_goOn_2 ?_
  refine V_istore_n (lv' := [(3, .int x5), (0, rf S a1), (1, .int x2), (2, .int x3)]) hX dX3_goOn_5 (by decide) rfl ?_
  refine V_iconst (v := 0) hX dX3_goOn_6 (by decide) ?_
  refine V_istore (lv' := [(4, .int 0), (3, .int x5), (0, rf S a1), (1, .int x2), (2, .int x3)]) hX dX3_goOn_7 (by decide) rfl ?_
  refine V_sub (lv' := [(0, rf S a1), (1, .int x2), (2, .int x3), (3, .int x5), (4, .int 0)]) [2, 3, 4, 1, 0] rfl ?_
  have k19 : ∀ (w : Wd)  , (some w) = some r → V X S w 59 [] [] := by
    intro w   hP
    exact hR _ _ _ (Option.some.inj hP) dX3_goOn_59
  exact sL_X3_goOn_9 hX hR ha1 k19 F _ _  hP
theorem c_X3_goOn (l : Launch) (S : Sx) {r : Wd} {F : Nat} {w : Wd} {a1 : Nat} {x2 : Int32} {x3 : Int32} (ha1 : isIA a1 = true) (h : P_X3_goOn F w a1 x2 x3 = some r) : Met l yX3_goOn (wsg yX3_goOn cX3_goOn 6 none) rm_X3_goOn (PC S w [rf S a1, .int x2, .int x3]) (QCv S r) 0 0 (Aw S) :=
  met_v (by decide) rfl (Nat.le_of_ble_eq_true rfl) ⟨rfl, rfl⟩ (fun X hX hR => s_X3_goOn ha1 hX hR h)

-- MustNotStop$Night.work(LMustNotStop$Tower;LMustNotStop$Bell;)V
abbrev rm_X3_work : Room := { frames := 4, cells := 0, slots := 0, locals := 143 }
theorem nk_X3_work : MNk yX3_work RX3 2 := ⟨rfl, by decide, by decide, by decide +kernel⟩
def K_X3_work_55 (F : Nat) (a1 : Nat) (a2 : Nat) (x7 : Int32) (x8 : Int32) (k91 : Wd → Option (Wd)) (rc : Wd → Int32 → Option (Wd)) (w : Wd) (x15 : Int32) (x16 : Int32) : Option (Wd) := gd (inB ((x15 * 8) + x7) 48) (lt (sI w 80 ((x15 * 8) + x7).toNatClampNeg x16) (fun w18 => gd (inB ((x15 * 8) + x7) 48) (lt (sI w18 81 ((x15 * 8) + x7).toNatClampNeg x16) (fun w20 => lt (x15 + 1 : Int32) (fun x21 => rc w20 x21)))))
set_option maxRecDepth 100000 in
set_option maxHeartbeats 4000000 in
theorem sK_X3_work_55 {X : Cx} {S : Sx} {r : Wd} {F : Nat} {a1 : Nat} {a2 : Nat} {x7 : Int32} {x8 : Int32} {k91 : Wd → Option (Wd)} {rc : Wd → Int32 → Option (Wd)} {w : Wd} {x15 : Int32} {x16 : Int32} (hX : Ok X S cX3_work RX3 7 rm_X3_work) (hR : HRv X S cX3_work r) (ha1 : isX9 a1 = true) (ha2 : isX1 a2 = true) (hk91 : ∀ (w : Wd), k91 w = some r → V X S w 91 [(0, rf S 76), (1, rf S a1), (2, rf S a2), (3, .int x7)] []) (hrc : ∀ (w : Wd) (x9 : Int32) , rc w x9 = some r → V X S w 21 [(0, rf S 76), (1, rf S a1), (2, rf S a2), (3, .int x7), (4, .int x8), (5, .int x9)] [])  (hP : K_X3_work_55 F a1 a2 x7 x8 k91 rc w x15 x16 = some r) : V X S w 55 [(0, rf S 76), (1, rf S a1), (2, rf S a2), (3, .int x7), (4, .int x8), (5, .int x15)] [.int x16] := by
  unfold K_X3_work_55 at hP
  refine V_istore (lv' := [(6, .int x16), (0, rf S 76), (1, rf S a1), (2, rf S a2), (3, .int x7), (4, .int x8), (5, .int x15)]) hX dX3_work_55 (by decide) rfl ?_
  refine V_aload_n hX dX3_work_57 1 rfl ?_
  refine V_getF (j := 80) hX fk_X3_25 tb_76 (fun _ _ _ => rfl) dX3_work_58 ?_
  refine V_iload hX dX3_work_61 6 rfl ?_
  refine V_bipush (v := 8) hX dX3_work_63 (by decide) ?_
  refine V_imul hX dX3_work_65 ?_
  refine V_iload_n hX dX3_work_66 4 rfl ?_
  refine V_iadd hX dX3_work_67 ?_
  refine V_iload hX dX3_work_68 0 rfl ?_
  obtain ⟨hi17, hP⟩ := gd_e hP
  refine V_iast hX tb_80 hi17 dX3_work_70 (fun w18 ew18 => ?_)
  replace hP := lt_r ew18 hP
  refine V_aload_n hX dX3_work_71 1 rfl ?_
  refine V_getF (j := 81) hX fk_X3_28 tb_76 (fun _ _ _ => rfl) dX3_work_72 ?_
  refine V_iload hX dX3_work_75 6 rfl ?_
  refine V_bipush (v := 8) hX dX3_work_77 (by decide) ?_
  refine V_imul hX dX3_work_79 ?_
  refine V_iload_n hX dX3_work_80 4 rfl ?_
  refine V_iadd hX dX3_work_81 ?_
  refine V_iload hX dX3_work_82 0 rfl ?_
  obtain ⟨hi19, hP⟩ := gd_e hP
  refine V_iast hX tb_81 hi19 dX3_work_84 (fun w20 ew20 => ?_)
  replace hP := lt_r ew20 hP
  obtain ⟨x21, ex21⟩ : ∃ y : Int32, y = x15 + 1 := ⟨_, rfl⟩
  replace hP := lt_r ex21 hP
  refine V_iinc (v := x21) (lv' := [(5, .int x21), (6, .int x16), (0, rf S 76), (1, rf S a1), (2, rf S a2), (3, .int x7), (4, .int x8)]) hX dX3_work_85 (j := 6) rfl (by decide) (by rw [ex21]; rfl) rfl ?_
  refine V_goto (tgt := 21) hX dX3_work_88 (by decide) ?_
  refine V_sub (lv' := [(0, rf S 76), (1, rf S a1), (2, rf S a2), (3, .int x7), (4, .int x8), (5, .int x21)]) [2, 3, 4, 5, 6, 0] rfl ?_
  exact hrc _ _  hP
def K_X3_work_54 (F : Nat) (a1 : Nat) (a2 : Nat) (x7 : Int32) (x8 : Int32) (k91 : Wd → Option (Wd)) (rc : Wd → Int32 → Option (Wd)) (w : Wd) (x14 : Int32) : Option (Wd) := K_X3_work_55 F a1 a2 x7 x8 k91 rc w x14 0
set_option maxRecDepth 100000 in
set_option maxHeartbeats 4000000 in
theorem sK_X3_work_54 {X : Cx} {S : Sx} {r : Wd} {F : Nat} {a1 : Nat} {a2 : Nat} {x7 : Int32} {x8 : Int32} {k91 : Wd → Option (Wd)} {rc : Wd → Int32 → Option (Wd)} {w : Wd} {x14 : Int32} (hX : Ok X S cX3_work RX3 7 rm_X3_work) (hR : HRv X S cX3_work r) (ha1 : isX9 a1 = true) (ha2 : isX1 a2 = true) (hk91 : ∀ (w : Wd), k91 w = some r → V X S w 91 [(0, rf S 76), (1, rf S a1), (2, rf S a2), (3, .int x7)] []) (hrc : ∀ (w : Wd) (x9 : Int32) , rc w x9 = some r → V X S w 21 [(0, rf S 76), (1, rf S a1), (2, rf S a2), (3, .int x7), (4, .int x8), (5, .int x9)] [])  (hP : K_X3_work_54 F a1 a2 x7 x8 k91 rc w x14 = some r) : V X S w 54 [(0, rf S 76), (1, rf S a1), (2, rf S a2), (3, .int x7), (4, .int x8), (5, .int x14)] [] := by
  unfold K_X3_work_54 at hP
  refine V_iconst (v := 0) hX dX3_work_54 (by decide) ?_
  exact sK_X3_work_55 hX hR ha1 ha2 hk91 hrc  hP
def L_X3_work_21 (F : Nat) (a1 : Nat) (a2 : Nat) (x7 : Int32) (x8 : Int32) (k91 : Wd → Option (Wd)) : Nat → Wd → Int32 → Option (Wd)
  | 0, _, _ => none
  | n + 1, w, x9 => (if (6 : Int32) ≤ x9 then k91 w  else bnd (P_X5_has F w 6 x7) (fun x12 w11 => (if x12 = 0 then K_X3_work_54 F a1 a2 x7 x8 k91 ((L_X3_work_21 F a1 a2 x7 x8 k91 n)) w11 x9 else bnd (P_X3_fits F w11 x9 x8) (fun x23 w22 => lt (if x23 = 0 then 0 else 1 : Int32) (fun x25 => gd (inB ((x9 * 8) + x7) 48) (lt (sI w22 80 ((x9 * 8) + x7).toNatClampNeg x25) (fun w27 => gd (inB ((x9 * 8) + x7) 48) (lt (sI w27 81 ((x9 * 8) + x7).toNatClampNeg x25) (fun w29 => lt (x9 + 1 : Int32) (fun x30 => L_X3_work_21 F a1 a2 x7 x8 k91 n w29 x30))))))))))
set_option maxRecDepth 100000 in
set_option maxHeartbeats 4000000 in
theorem sL_X3_work_21 {X : Cx} {S : Sx} {r : Wd} {F : Nat} {a1 : Nat} {a2 : Nat} {x7 : Int32} {x8 : Int32} {k91 : Wd → Option (Wd)} (hX : Ok X S cX3_work RX3 7 rm_X3_work) (hR : HRv X S cX3_work r) (ha1 : isX9 a1 = true) (ha2 : isX1 a2 = true) (hk91 : ∀ (w : Wd), k91 w = some r → V X S w 91 [(0, rf S 76), (1, rf S a1), (2, rf S a2), (3, .int x7)] []) : ∀ (n : Nat) (w : Wd) (x9 : Int32) , L_X3_work_21 F a1 a2 x7 x8 k91 n w x9 = some r → V X S w 21 [(0, rf S 76), (1, rf S a1), (2, rf S a2), (3, .int x7), (4, .int x8), (5, .int x9)] [] := by
  intro n
  induction n with
  | zero =>
    intro w x9  hP
    exact nn hP
  | succ n ih =>
    intro w x9  hP
    rw [L_X3_work_21] at hP
    refine V_iload hX dX3_work_21 5 rfl ?_
    refine V_bipush (v := 6) hX dX3_work_23 (by decide) ?_
    refine V_icmp_ge (tgt := 91) hX dX3_work_25 (by decide) (fun hc10 => ?_) (fun hc10 => ?_)
    · replace hP := ite_t hc10 hP
      refine V_sub (lv' := [(0, rf S 76), (1, rf S a1), (2, rf S a2), (3, .int x7)]) [0, 1, 2, 3] rfl ?_
      exact hk91 _   hP
    · replace hP := ite_f hc10 hP
      refine V_aload_n hX dX3_work_28 1 rfl ?_
      refine V_getF (j := 6) hX fk_X3_37 (tb_X9 ha1) (fun _ _ _ => rfl) dX3_work_29 ?_
      refine V_iload_n hX dX3_work_32 3 rfl ?_
      obtain ⟨x12, w11, hcw11, hP⟩ := bnd_e hP
      refine V_callVi (As := [.int x7]) (rest := []) hX mk_X3_41 nk_X5_has (fun l => c_X5_has l S (by decide) hcw11) tb_6 rfl ⟨rfl, rfl, Nat.le_of_ble_eq_true rfl, Nat.le_of_ble_eq_true rfl⟩ rfl rfl (Nat.le_of_ble_eq_true rfl) dX3_work_33 ?_
      refine V_if_eq (tgt := 54) hX dX3_work_36 (by decide) (fun hc13 => ?_) (fun hc13 => ?_)
      · replace hP := ite_t hc13 hP
        exact sK_X3_work_54 hX hR ha1 ha2 hk91 ih  hP
      · replace hP := ite_f hc13 hP
        refine V_aload_n hX dX3_work_39 0 rfl ?_
        refine V_iload hX dX3_work_40 5 rfl ?_
        refine V_iload hX dX3_work_42 4 rfl ?_
        obtain ⟨x23, w22, hcw22, hP⟩ := bnd_e hP
        refine V_callVi (As := [.int x9, .int x8]) (rest := []) hX mk_X3_47 nk_X3_fits (fun l => c_X3_fits l S  hcw22) tb_76 rfl ⟨rfl, rfl, Nat.le_of_ble_eq_true rfl, Nat.le_of_ble_eq_true rfl⟩ rfl rfl (Nat.le_of_ble_eq_true rfl) dX3_work_44 ?_
        have k31 : V X S w22 55 [(0, rf S 76), (1, rf S a1), (2, rf S a2), (3, .int x7), (4, .int x8), (5, .int x9)] [.int (if x23 = 0 then 0 else 1)] := by
          refine V_topi (fun x25 ex25 => ?_)
          replace hP := lt_r ex25 hP
          refine V_istore (lv' := [(6, .int x25), (0, rf S 76), (1, rf S a1), (2, rf S a2), (3, .int x7), (4, .int x8), (5, .int x9)]) hX dX3_work_55 (by decide) rfl ?_
          refine V_aload_n hX dX3_work_57 1 rfl ?_
          refine V_getF (j := 80) hX fk_X3_25 tb_76 (fun _ _ _ => rfl) dX3_work_58 ?_
          refine V_iload hX dX3_work_61 6 rfl ?_
          refine V_bipush (v := 8) hX dX3_work_63 (by decide) ?_
          refine V_imul hX dX3_work_65 ?_
          refine V_iload_n hX dX3_work_66 4 rfl ?_
          refine V_iadd hX dX3_work_67 ?_
          refine V_iload hX dX3_work_68 0 rfl ?_
          obtain ⟨hi26, hP⟩ := gd_e hP
          refine V_iast hX tb_80 hi26 dX3_work_70 (fun w27 ew27 => ?_)
          replace hP := lt_r ew27 hP
          refine V_aload_n hX dX3_work_71 1 rfl ?_
          refine V_getF (j := 81) hX fk_X3_28 tb_76 (fun _ _ _ => rfl) dX3_work_72 ?_
          refine V_iload hX dX3_work_75 6 rfl ?_
          refine V_bipush (v := 8) hX dX3_work_77 (by decide) ?_
          refine V_imul hX dX3_work_79 ?_
          refine V_iload_n hX dX3_work_80 4 rfl ?_
          refine V_iadd hX dX3_work_81 ?_
          refine V_iload hX dX3_work_82 0 rfl ?_
          obtain ⟨hi28, hP⟩ := gd_e hP
          refine V_iast hX tb_81 hi28 dX3_work_84 (fun w29 ew29 => ?_)
          replace hP := lt_r ew29 hP
          obtain ⟨x30, ex30⟩ : ∃ y : Int32, y = x9 + 1 := ⟨_, rfl⟩
          replace hP := lt_r ex30 hP
          refine V_iinc (v := x30) (lv' := [(5, .int x30), (6, .int x25), (0, rf S 76), (1, rf S a1), (2, rf S a2), (3, .int x7), (4, .int x8)]) hX dX3_work_85 (j := 6) rfl (by decide) (by rw [ex30]; rfl) rfl ?_
          refine V_goto (tgt := 21) hX dX3_work_88 (by decide) ?_
          refine V_sub (lv' := [(0, rf S 76), (1, rf S a1), (2, rf S a2), (3, .int x7), (4, .int x8), (5, .int x30)]) [2, 3, 4, 5, 6, 0] rfl ?_
          exact ih _ _  hP
        refine V_if_eq (tgt := 54) hX dX3_work_47 (by decide) (fun hc24 => ?_) (fun hc24 => ?_)
        · refine V_iconst (v := 0) hX dX3_work_54 (by decide) ?_
          refine V_selT (c := x23 = 0) (b := 1) hc24 ?_
          exact k31
        · refine V_iconst (v := 1) hX dX3_work_50 (by decide) ?_
          refine V_goto (tgt := 55) hX dX3_work_51 (by decide) ?_
          refine V_selF (c := x23 = 0) (a := 0) hc24 ?_
          exact k31
def L_X3_work_2 (F : Nat) (a1 : Nat) (a2 : Nat) (k97 : Wd → Option (Wd)) : Nat → Wd → Int32 → Option (Wd)
  | 0, _, _ => none
  | n + 1, w, x3 => (if (8 : Int32) ≤ x3 then k97 w  else bnd (P_X9_volume F w a1 a2 (ishlI 1 x3)) (fun x6 w5 => L_X3_work_21 F a1 a2 x3 x6 (fun w  => lt (x3 + 1 : Int32) (fun x32 => L_X3_work_2 F a1 a2 k97 n w x32)) F w5 0))
set_option maxRecDepth 100000 in
set_option maxHeartbeats 4000000 in
theorem sL_X3_work_2 {X : Cx} {S : Sx} {r : Wd} {F : Nat} {a1 : Nat} {a2 : Nat} {k97 : Wd → Option (Wd)} (hX : Ok X S cX3_work RX3 7 rm_X3_work) (hR : HRv X S cX3_work r) (ha1 : isX9 a1 = true) (ha2 : isX1 a2 = true) (hk97 : ∀ (w : Wd), k97 w = some r → V X S w 97 [(0, rf S 76)] []) : ∀ (n : Nat) (w : Wd) (x3 : Int32) , L_X3_work_2 F a1 a2 k97 n w x3 = some r → V X S w 2 [(0, rf S 76), (1, rf S a1), (2, rf S a2), (3, .int x3)] [] := by
  intro n
  induction n with
  | zero =>
    intro w x3  hP
    exact nn hP
  | succ n ih =>
    intro w x3  hP
    rw [L_X3_work_2] at hP
    refine V_iload_n hX dX3_work_2 3 rfl ?_
    refine V_bipush (v := 8) hX dX3_work_3 (by decide) ?_
    refine V_icmp_ge (tgt := 97) hX dX3_work_5 (by decide) (fun hc4 => ?_) (fun hc4 => ?_)
    · replace hP := ite_t hc4 hP
      refine V_sub (lv' := [(0, rf S 76)]) [0] rfl ?_
      exact hk97 _   hP
    · replace hP := ite_f hc4 hP
      refine V_aload_n hX dX3_work_8 1 rfl ?_
      refine V_aload_n hX dX3_work_9 2 rfl ?_
      refine V_iconst (v := 1) hX dX3_work_10 (by decide) ?_
      refine V_iload_n hX dX3_work_11 3 rfl ?_
      refine V_ishl hX dX3_work_12 ?_
      obtain ⟨x6, w5, hcw5, hP⟩ := bnd_e hP
      refine V_callVi (As := [rf S a2, .int (ishlI 1 x3)]) (rest := []) hX mk_X3_31 nk_X9_volume (fun l => c_X9_volume l S ha1 ha2 hcw5) (tb_X9 ha1) rfl ⟨rfl, rfl, Nat.le_of_ble_eq_true rfl, Nat.le_of_ble_eq_true rfl⟩ rfl rfl (Nat.le_of_ble_eq_true rfl) dX3_work_13 ?_
      refine V_istore (lv' := [(4, .int x6), (0, rf S 76), (1, rf S a1), (2, rf S a2), (3, .int x3)]) hX dX3_work_16 (by decide) rfl ?_
      refine V_iconst (v := 0) hX dX3_work_18 (by decide) ?_
      refine V_istore (lv' := [(5, .int 0), (4, .int x6), (0, rf S 76), (1, rf S a1), (2, rf S a2), (3, .int x3)]) hX dX3_work_19 (by decide) rfl ?_
      refine V_sub (lv' := [(0, rf S 76), (1, rf S a1), (2, rf S a2), (3, .int x3), (4, .int x6), (5, .int 0)]) [2, 3, 4, 5, 1, 0] rfl ?_
      have k33 : ∀ (w : Wd)  , (lt (x3 + 1 : Int32) (fun x32 => L_X3_work_2 F a1 a2 k97 n w x32)) = some r → V X S w 91 [(0, rf S 76), (1, rf S a1), (2, rf S a2), (3, .int x3)] [] := by
        intro w   hP
        obtain ⟨x32, ex32⟩ : ∃ y : Int32, y = x3 + 1 := ⟨_, rfl⟩
        replace hP := lt_r ex32 hP
        refine V_iinc (v := x32) (lv' := [(3, .int x32), (0, rf S 76), (1, rf S a1), (2, rf S a2)]) hX dX3_work_91 (j := 3) rfl (by decide) (by rw [ex32]; rfl) rfl ?_
        refine V_goto (tgt := 2) hX dX3_work_94 (by decide) ?_
        refine V_sub (lv' := [(0, rf S 76), (1, rf S a1), (2, rf S a2), (3, .int x32)]) [1, 2, 3, 0] rfl ?_
        exact ih _ _  hP
      exact sL_X3_work_21 hX hR ha1 ha2 k33 F _ _  hP
def L_X3_work_99 (F : Nat) (a1 : Nat) (a2 : Nat) (k136 : Wd → Option (Wd)) : Nat → Wd → Int32 → Option (Wd)
  | 0, _, _ => none
  | n + 1, w, x34 => (if (6 : Int32) ≤ x34 then k136 w  else bnv (P_X3_goOn F w 80 (x34 - 1) x34) (fun w36 => bnv (P_X3_goOn F w36 81 (6 - x34) (5 - x34)) (fun w37 => lt (x34 + 1 : Int32) (fun x38 => L_X3_work_99 F a1 a2 k136 n w37 x38))))
set_option maxRecDepth 100000 in
set_option maxHeartbeats 4000000 in
theorem sL_X3_work_99 {X : Cx} {S : Sx} {r : Wd} {F : Nat} {a1 : Nat} {a2 : Nat} {k136 : Wd → Option (Wd)} (hX : Ok X S cX3_work RX3 7 rm_X3_work) (hR : HRv X S cX3_work r) (ha1 : isX9 a1 = true) (ha2 : isX1 a2 = true) (hk136 : ∀ (w : Wd), k136 w = some r → V X S w 136 [] []) : ∀ (n : Nat) (w : Wd) (x34 : Int32) , L_X3_work_99 F a1 a2 k136 n w x34 = some r → V X S w 99 [(0, rf S 76), (3, .int x34)] [] := by
  intro n
  induction n with
  | zero =>
    intro w x34  hP
    exact nn hP
  | succ n ih =>
    intro w x34  hP
    rw [L_X3_work_99] at hP
    refine V_iload_n hX dX3_work_99 1 rfl ?_
    refine V_bipush (v := 6) hX dX3_work_100 (by decide) ?_
    refine V_icmp_ge (tgt := 136) hX dX3_work_102 (by decide) (fun hc35 => ?_) (fun hc35 => ?_)
    · replace hP := ite_t hc35 hP
      refine V_sub (lv' := []) [] rfl ?_
      exact hk136 _   hP
    · replace hP := ite_f hc35 hP
      refine V_aload_n hX dX3_work_105 0 rfl ?_
      refine V_getF (j := 80) hX fk_X3_25 tb_76 (fun _ _ _ => rfl) dX3_work_106 ?_
      refine V_iload_n hX dX3_work_109 1 rfl ?_
      refine V_iconst (v := 1) hX dX3_work_110 (by decide) ?_
      refine V_isub hX dX3_work_111 ?_
      refine V_iload_n hX dX3_work_112 1 rfl ?_
      obtain ⟨w36, hcw36, hP⟩ := bnv_e hP
      refine V_callSv (As := [rf S 80, .int (x34 - 1), .int x34]) (rest := []) hX mk_X3_51 nk_X3_goOn (fun l => c_X3_goOn l S (by decide) hcw36) ⟨rfl, rfl, Nat.le_of_ble_eq_true rfl, Nat.le_of_ble_eq_true rfl⟩ rfl rfl (Nat.le_of_ble_eq_true rfl) dX3_work_113 ?_
      refine V_aload_n hX dX3_work_116 0 rfl ?_
      refine V_getF (j := 81) hX fk_X3_28 tb_76 (fun _ _ _ => rfl) dX3_work_117 ?_
      refine V_bipush (v := 6) hX dX3_work_120 (by decide) ?_
      refine V_iload_n hX dX3_work_122 1 rfl ?_
      refine V_isub hX dX3_work_123 ?_
      refine V_iconst (v := 5) hX dX3_work_124 (by decide) ?_
      refine V_iload_n hX dX3_work_125 1 rfl ?_
      refine V_isub hX dX3_work_126 ?_
      obtain ⟨w37, hcw37, hP⟩ := bnv_e hP
      refine V_callSv (As := [rf S 81, .int (6 - x34), .int (5 - x34)]) (rest := []) hX mk_X3_51 nk_X3_goOn (fun l => c_X3_goOn l S (by decide) hcw37) ⟨rfl, rfl, Nat.le_of_ble_eq_true rfl, Nat.le_of_ble_eq_true rfl⟩ rfl rfl (Nat.le_of_ble_eq_true rfl) dX3_work_127 ?_
      obtain ⟨x38, ex38⟩ : ∃ y : Int32, y = x34 + 1 := ⟨_, rfl⟩
      replace hP := lt_r ex38 hP
      refine V_iinc (v := x38) (lv' := [(3, .int x38), (0, rf S 76)]) hX dX3_work_130 (j := 1) rfl (by decide) (by rw [ex38]; rfl) rfl ?_
      refine V_goto (tgt := 99) hX dX3_work_133 (by decide) ?_
      refine V_sub (lv' := [(0, rf S 76), (3, .int x38)]) [1, 0] rfl ?_
      exact ih _ _  hP
def P_X3_work (F : Nat) (w : Wd) (a1 : Nat) (a2 : Nat) : Option (Wd) := L_X3_work_2 F a1 a2 (fun w  => L_X3_work_99 F a1 a2 (fun w  => some w) F w 1) F w 0
set_option maxRecDepth 100000 in
set_option maxHeartbeats 4000000 in
theorem s_X3_work {X : Cx} {S : Sx} {r : Wd} {F : Nat} {w : Wd} {a1 : Nat} {a2 : Nat} (ha1 : isX9 a1 = true) (ha2 : isX1 a2 = true) (hX : Ok X S cX3_work RX3 7 rm_X3_work) (hR : HRv X S cX3_work r) (hP : P_X3_work F w a1 a2 = some r) : V X S w 0 [(0, rf S 76), (1, rf S a1), (2, rf S a2)] [] := by
  unfold P_X3_work at hP
  refine V_iconst (v := 0) hX dX3_work_0 (by decide) ?_
  refine V_istore_n (lv' := [(3, .int 0), (0, rf S 76), (1, rf S a1), (2, rf S a2)]) hX dX3_work_1 (by decide) rfl ?_
  refine V_sub (lv' := [(0, rf S 76), (1, rf S a1), (2, rf S a2), (3, .int 0)]) [1, 2, 3, 0] rfl ?_
  have k40 : ∀ (w : Wd)  , (L_X3_work_99 F a1 a2 (fun w  => some w) F w 1) = some r → V X S w 97 [(0, rf S 76)] [] := by
    intro w   hP
    refine V_iconst (v := 1) hX dX3_work_97 (by decide) ?_
    refine V_istore_n (lv' := [(3, .int 1), (0, rf S 76)]) hX dX3_work_98 (by decide) rfl ?_
    refine V_sub (lv' := [(0, rf S 76), (3, .int 1)]) [1, 0] rfl ?_
    have k39 : ∀ (w : Wd)  , (some w) = some r → V X S w 136 [] [] := by
      intro w   hP
      exact hR _ _ _ (Option.some.inj hP) dX3_work_136
    exact sL_X3_work_99 hX hR ha1 ha2 k39 F _ _  hP
  exact sL_X3_work_2 hX hR ha1 ha2 k40 F _ _  hP
theorem c_X3_work (l : Launch) (S : Sx) {r : Wd} {F : Nat} {w : Wd} {a1 : Nat} {a2 : Nat} (ha1 : isX9 a1 = true) (ha2 : isX1 a2 = true) (h : P_X3_work F w a1 a2 = some r) : Met l yX3_work (wsg yX3_work cX3_work 7 none) rm_X3_work (PC S w [rf S 76, rf S a1, rf S a2]) (QCv S r) 0 0 (Aw S) :=
  met_v (by decide) rfl (Nat.le_of_ble_eq_true rfl) ⟨rfl, rfl⟩ (fun X hX hR => s_X3_work ha1 ha2 hX hR h)

-- MustNotStop$Night.total()I
abbrev rm_X3_total : Room := { frames := 3, cells := 0, slots := 0, locals := 110 }
theorem nk_X3_total : MNk yX3_total RX3 0 := ⟨rfl, by decide, by decide, by decide +kernel⟩
def P_X3_total (F : Nat) (w : Wd)  : Option (Int32 × Wd) := bnd (P_X3_sum F w 81 0) (fun x2 w1 => some (x2, w1))
set_option maxRecDepth 100000 in
set_option maxHeartbeats 4000000 in
theorem s_X3_total {X : Cx} {S : Sx} {r : Int32 × Wd} {F : Nat} {w : Wd}   (hX : Ok X S cX3_total RX3 1 rm_X3_total) (hR : HRt X S cX3_total .int r) (hP : P_X3_total F w  = some r) : V X S w 0 [(0, rf S 76)] [] := by
  unfold P_X3_total at hP
  refine V_aload_n hX dX3_total_0 0 rfl ?_
  refine V_getF (j := 81) hX fk_X3_28 tb_76 (fun _ _ _ => rfl) dX3_total_1 ?_
  refine V_iconst (v := 0) hX dX3_total_4 (by decide) ?_
  obtain ⟨x2, w1, hcw1, hP⟩ := bnd_e hP
  refine V_callSi (As := [rf S 81, .int 0]) (rest := []) hX mk_X3_55 nk_X3_sum (fun l => c_X3_sum l S (by decide) hcw1) ⟨rfl, rfl, Nat.le_of_ble_eq_true rfl, Nat.le_of_ble_eq_true rfl⟩ rfl rfl (Nat.le_of_ble_eq_true rfl) dX3_total_5 ?_
  exact hR _ _ _ _ (Option.some.inj hP) rfl dX3_total_8
theorem c_X3_total (l : Launch) (S : Sx) {r : Int32 × Wd} {F : Nat} {w : Wd}   (h : P_X3_total F w  = some r) : Met l yX3_total (wsg yX3_total cX3_total 1 (some .int)) rm_X3_total (PC S w [rf S 76]) (QCi S r) 0 0 (Aw S) :=
  met_i (by decide) rfl (Nat.le_of_ble_eq_true rfl) ⟨rfl, rfl⟩ (fun X hX hR => s_X3_total  hX hR h)

-- MustNotStop$Night.leastBehind(II)I
abbrev rm_X3_leastBehind : Room := { frames := 2, cells := 0, slots := 0, locals := 87 }
theorem nk_X3_leastBehind : MNk yX3_leastBehind RX3 2 := ⟨rfl, by decide, by decide, by decide +kernel⟩
def K_X3_leastBehind_27 (F : Nat) (x1 : Int32) (x2 : Int32) (k33 : Wd → Option (Int32 × Wd)) (rc : Wd → Int32 → Option (Int32 × Wd)) (w : Wd) (x6 : Int32) : Option (Int32 × Wd) := lt (x6 + 1 : Int32) (fun x7 => rc w x7)
set_option maxRecDepth 100000 in
set_option maxHeartbeats 4000000 in
theorem sK_X3_leastBehind_27 {X : Cx} {S : Sx} {r : Int32 × Wd} {F : Nat} {x1 : Int32} {x2 : Int32} {k33 : Wd → Option (Int32 × Wd)} {rc : Wd → Int32 → Option (Int32 × Wd)} {w : Wd} {x6 : Int32} (hX : Ok X S cX3_leastBehind RX3 4 rm_X3_leastBehind) (hR : HRt X S cX3_leastBehind .int r)  (hk33 : ∀ (w : Wd), k33 w = some r → V X S w 33 [] []) (hrc : ∀ (w : Wd) (x3 : Int32) , rc w x3 = some r → V X S w 2 [(0, rf S 76), (1, .int x1), (2, .int x2), (3, .int x3)] [])  (hP : K_X3_leastBehind_27 F x1 x2 k33 rc w x6 = some r) : V X S w 27 [(0, rf S 76), (1, .int x1), (2, .int x2), (3, .int x6)] [] := by
  unfold K_X3_leastBehind_27 at hP
  obtain ⟨x7, ex7⟩ : ∃ y : Int32, y = x6 + 1 := ⟨_, rfl⟩
  replace hP := lt_r ex7 hP
  refine V_iinc (v := x7) (lv' := [(3, .int x7), (0, rf S 76), (1, .int x1), (2, .int x2)]) hX dX3_leastBehind_27 (j := 3) rfl (by decide) (by rw [ex7]; rfl) rfl ?_
  refine V_goto (tgt := 2) hX dX3_leastBehind_30 (by decide) ?_
  refine V_sub (lv' := [(0, rf S 76), (1, .int x1), (2, .int x2), (3, .int x7)]) [1, 2, 3, 0] rfl ?_
  exact hrc _ _  hP
def L_X3_leastBehind_2 (F : Nat) (x1 : Int32) (x2 : Int32) (k33 : Wd → Option (Int32 × Wd)) : Nat → Wd → Int32 → Option (Int32 × Wd)
  | 0, _, _ => none
  | n + 1, w, x3 => (if (8 : Int32) ≤ x3 then k33 w  else (if x3 = x2 then K_X3_leastBehind_27 F x1 x2 k33 ((L_X3_leastBehind_2 F x1 x2 k33 n)) w x3 else bnd (P_X3_waysOf F w 81 x1 x3) (fun x9 w8 => (if x9 ≤ 0 then K_X3_leastBehind_27 F x1 x2 k33 ((L_X3_leastBehind_2 F x1 x2 k33 n)) w8 x3 else some (x3, w8)))))
set_option maxRecDepth 100000 in
set_option maxHeartbeats 4000000 in
theorem sL_X3_leastBehind_2 {X : Cx} {S : Sx} {r : Int32 × Wd} {F : Nat} {x1 : Int32} {x2 : Int32} {k33 : Wd → Option (Int32 × Wd)} (hX : Ok X S cX3_leastBehind RX3 4 rm_X3_leastBehind) (hR : HRt X S cX3_leastBehind .int r)  (hk33 : ∀ (w : Wd), k33 w = some r → V X S w 33 [] []) : ∀ (n : Nat) (w : Wd) (x3 : Int32) , L_X3_leastBehind_2 F x1 x2 k33 n w x3 = some r → V X S w 2 [(0, rf S 76), (1, .int x1), (2, .int x2), (3, .int x3)] [] := by
  intro n
  induction n with
  | zero =>
    intro w x3  hP
    exact nn hP
  | succ n ih =>
    intro w x3  hP
    rw [L_X3_leastBehind_2] at hP
    refine V_iload_n hX dX3_leastBehind_2 3 rfl ?_
    refine V_bipush (v := 8) hX dX3_leastBehind_3 (by decide) ?_
    refine V_icmp_ge (tgt := 33) hX dX3_leastBehind_5 (by decide) (fun hc4 => ?_) (fun hc4 => ?_)
    · replace hP := ite_t hc4 hP
      refine V_sub (lv' := []) [] rfl ?_
      exact hk33 _   hP
    · replace hP := ite_f hc4 hP
      refine V_iload_n hX dX3_leastBehind_8 3 rfl ?_
      refine V_iload_n hX dX3_leastBehind_9 2 rfl ?_
      refine V_icmp_eq (tgt := 27) hX dX3_leastBehind_10 (by decide) (fun hc5 => ?_) (fun hc5 => ?_)
      · replace hP := ite_t hc5 hP
        exact sK_X3_leastBehind_27 hX hR  hk33 ih  hP
      · replace hP := ite_f hc5 hP
        refine V_aload_n hX dX3_leastBehind_13 0 rfl ?_
        refine V_getF (j := 81) hX fk_X3_28 tb_76 (fun _ _ _ => rfl) dX3_leastBehind_14 ?_
        refine V_iload_n hX dX3_leastBehind_17 1 rfl ?_
        refine V_iload_n hX dX3_leastBehind_18 3 rfl ?_
        obtain ⟨x9, w8, hcw8, hP⟩ := bnd_e hP
        refine V_callSi (As := [rf S 81, .int x1, .int x3]) (rest := []) hX mk_X3_59 nk_X3_waysOf (fun l => c_X3_waysOf l S (by decide) hcw8) ⟨rfl, rfl, Nat.le_of_ble_eq_true rfl, Nat.le_of_ble_eq_true rfl⟩ rfl rfl (Nat.le_of_ble_eq_true rfl) dX3_leastBehind_19 ?_
        refine V_if_le (tgt := 27) hX dX3_leastBehind_22 (by decide) (fun hc10 => ?_) (fun hc10 => ?_)
        · replace hP := ite_t hc10 hP
          exact sK_X3_leastBehind_27 hX hR  hk33 ih  hP
        · replace hP := ite_f hc10 hP
          refine V_iload_n hX dX3_leastBehind_25 3 rfl ?_
          exact hR _ _ _ _ (Option.some.inj hP) rfl dX3_leastBehind_26
def P_X3_leastBehind (F : Nat) (w : Wd) (x1 : Int32) (x2 : Int32) : Option (Int32 × Wd) := L_X3_leastBehind_2 F x1 x2 (fun w  => some ((-1), w)) F w 0
set_option maxRecDepth 100000 in
set_option maxHeartbeats 4000000 in
theorem s_X3_leastBehind {X : Cx} {S : Sx} {r : Int32 × Wd} {F : Nat} {w : Wd} {x1 : Int32} {x2 : Int32}  (hX : Ok X S cX3_leastBehind RX3 4 rm_X3_leastBehind) (hR : HRt X S cX3_leastBehind .int r) (hP : P_X3_leastBehind F w x1 x2 = some r) : V X S w 0 [(0, rf S 76), (1, .int x1), (2, .int x2)] [] := by
  unfold P_X3_leastBehind at hP
  refine V_iconst (v := 0) hX dX3_leastBehind_0 (by decide) ?_
  refine V_istore_n (lv' := [(3, .int 0), (0, rf S 76), (1, .int x1), (2, .int x2)]) hX dX3_leastBehind_1 (by decide) rfl ?_
  refine V_sub (lv' := [(0, rf S 76), (1, .int x1), (2, .int x2), (3, .int 0)]) [1, 2, 3, 0] rfl ?_
  have k11 : ∀ (w : Wd)  , (some ((-1), w)) = some r → V X S w 33 [] [] := by
    intro w   hP
    refine V_iconst (v := (-1)) hX dX3_leastBehind_33 (by decide) ?_
    exact hR _ _ _ _ (Option.some.inj hP) rfl dX3_leastBehind_34
  exact sL_X3_leastBehind_2 hX hR  k11 F _ _  hP
theorem c_X3_leastBehind (l : Launch) (S : Sx) {r : Int32 × Wd} {F : Nat} {w : Wd} {x1 : Int32} {x2 : Int32}  (h : P_X3_leastBehind F w x1 x2 = some r) : Met l yX3_leastBehind (wsg yX3_leastBehind cX3_leastBehind 4 (some .int)) rm_X3_leastBehind (PC S w [rf S 76, .int x1, .int x2]) (QCi S r) 0 0 (Aw S) :=
  met_i (by decide) rfl (Nat.le_of_ble_eq_true rfl) ⟨rfl, rfl⟩ (fun X hX hR => s_X3_leastBehind  hX hR h)

-- MustNotStop$Night.possible(I)I
abbrev rm_X3_possible : Room := { frames := 2, cells := 0, slots := 0, locals := 87 }
theorem nk_X3_possible : MNk yX3_possible RX3 1 := ⟨rfl, by decide, by decide, by decide +kernel⟩
def K_X3_possible_40 (F : Nat) (x1 : Int32) (k46 : Wd → Int32 → Option (Int32 × Wd)) (rc : Wd → Int32 → Int32 → Option (Int32 × Wd)) (w : Wd) (x9 : Int32) (x10 : Int32) : Option (Int32 × Wd) := lt (x10 + 1 : Int32) (fun x11 => rc w x9 x11)
set_option maxRecDepth 100000 in
set_option maxHeartbeats 4000000 in
theorem sK_X3_possible_40 {X : Cx} {S : Sx} {r : Int32 × Wd} {F : Nat} {x1 : Int32} {k46 : Wd → Int32 → Option (Int32 × Wd)} {rc : Wd → Int32 → Int32 → Option (Int32 × Wd)} {w : Wd} {x9 : Int32} {x10 : Int32} (hX : Ok X S cX3_possible RX3 4 rm_X3_possible) (hR : HRt X S cX3_possible .int r)  (hk46 : ∀ (w : Wd) (x4 : Int32) , k46 w x4 = some r → V X S w 46 [(2, .int x4)] []) (hrc : ∀ (w : Wd) (x2 : Int32) (x3 : Int32) , rc w x2 x3 = some r → V X S w 4 [(0, rf S 76), (1, .int x1), (2, .int x2), (3, .int x3)] [])  (hP : K_X3_possible_40 F x1 k46 rc w x9 x10 = some r) : V X S w 40 [(0, rf S 76), (1, .int x1), (2, .int x9), (3, .int x10)] [] := by
  unfold K_X3_possible_40 at hP
  obtain ⟨x11, ex11⟩ : ∃ y : Int32, y = x10 + 1 := ⟨_, rfl⟩
  replace hP := lt_r ex11 hP
  refine V_iinc (v := x11) (lv' := [(3, .int x11), (0, rf S 76), (1, .int x1), (2, .int x9)]) hX dX3_possible_40 (j := 3) rfl (by decide) (by rw [ex11]; rfl) rfl ?_
  refine V_goto (tgt := 4) hX dX3_possible_43 (by decide) ?_
  refine V_sub (lv' := [(0, rf S 76), (1, .int x1), (2, .int x9), (3, .int x11)]) [1, 2, 3, 0] rfl ?_
  exact hrc _ _ _  hP
def L_X3_possible_4 (F : Nat) (x1 : Int32) (k46 : Wd → Int32 → Option (Int32 × Wd)) : Nat → Wd → Int32 → Int32 → Option (Int32 × Wd)
  | 0, _, _, _ => none
  | n + 1, w, x2, x3 => (if (8 : Int32) ≤ x3 then k46 w x2 else bnd (P_X3_waysOf F w 80 x1 x3) (fun x7 w6 => (if x7 ≤ 0 then K_X3_possible_40 F x1 k46 ((L_X3_possible_4 F x1 k46 n)) w6 x2 x3 else bnd (P_X3_waysOf F w6 81 x1 x3) (fun x13 w12 => (if x13 ≤ 0 then K_X3_possible_40 F x1 k46 ((L_X3_possible_4 F x1 k46 n)) w12 x2 x3 else lt (x2 ||| (ishlI 1 x3) : Int32) (fun x15 => K_X3_possible_40 F x1 k46 ((L_X3_possible_4 F x1 k46 n)) w12 x15 x3))))))
set_option maxRecDepth 100000 in
set_option maxHeartbeats 4000000 in
theorem sL_X3_possible_4 {X : Cx} {S : Sx} {r : Int32 × Wd} {F : Nat} {x1 : Int32} {k46 : Wd → Int32 → Option (Int32 × Wd)} (hX : Ok X S cX3_possible RX3 4 rm_X3_possible) (hR : HRt X S cX3_possible .int r)  (hk46 : ∀ (w : Wd) (x4 : Int32) , k46 w x4 = some r → V X S w 46 [(2, .int x4)] []) : ∀ (n : Nat) (w : Wd) (x2 : Int32) (x3 : Int32) , L_X3_possible_4 F x1 k46 n w x2 x3 = some r → V X S w 4 [(0, rf S 76), (1, .int x1), (2, .int x2), (3, .int x3)] [] := by
  intro n
  induction n with
  | zero =>
    intro w x2 x3  hP
    exact nn hP
  | succ n ih =>
    intro w x2 x3  hP
    rw [L_X3_possible_4] at hP
    refine V_iload_n hX dX3_possible_4 3 rfl ?_
    refine V_bipush (v := 8) hX dX3_possible_5 (by decide) ?_
    refine V_icmp_ge (tgt := 46) hX dX3_possible_7 (by decide) (fun hc5 => ?_) (fun hc5 => ?_)
    · replace hP := ite_t hc5 hP
      refine V_sub (lv' := [(2, .int x2)]) [2] rfl ?_
      exact hk46 _ _  hP
    · replace hP := ite_f hc5 hP
      refine V_aload_n hX dX3_possible_10 0 rfl ?_
      refine V_getF (j := 80) hX fk_X3_25 tb_76 (fun _ _ _ => rfl) dX3_possible_11 ?_
      refine V_iload_n hX dX3_possible_14 1 rfl ?_
      refine V_iload_n hX dX3_possible_15 3 rfl ?_
      obtain ⟨x7, w6, hcw6, hP⟩ := bnd_e hP
      refine V_callSi (As := [rf S 80, .int x1, .int x3]) (rest := []) hX mk_X3_59 nk_X3_waysOf (fun l => c_X3_waysOf l S (by decide) hcw6) ⟨rfl, rfl, Nat.le_of_ble_eq_true rfl, Nat.le_of_ble_eq_true rfl⟩ rfl rfl (Nat.le_of_ble_eq_true rfl) dX3_possible_16 ?_
      refine V_if_le (tgt := 40) hX dX3_possible_19 (by decide) (fun hc8 => ?_) (fun hc8 => ?_)
      · replace hP := ite_t hc8 hP
        exact sK_X3_possible_40 hX hR  hk46 ih  hP
      · replace hP := ite_f hc8 hP
        refine V_aload_n hX dX3_possible_22 0 rfl ?_
        refine V_getF (j := 81) hX fk_X3_28 tb_76 (fun _ _ _ => rfl) dX3_possible_23 ?_
        refine V_iload_n hX dX3_possible_26 1 rfl ?_
        refine V_iload_n hX dX3_possible_27 3 rfl ?_
        obtain ⟨x13, w12, hcw12, hP⟩ := bnd_e hP
        refine V_callSi (As := [rf S 81, .int x1, .int x3]) (rest := []) hX mk_X3_59 nk_X3_waysOf (fun l => c_X3_waysOf l S (by decide) hcw12) ⟨rfl, rfl, Nat.le_of_ble_eq_true rfl, Nat.le_of_ble_eq_true rfl⟩ rfl rfl (Nat.le_of_ble_eq_true rfl) dX3_possible_28 ?_
        refine V_if_le (tgt := 40) hX dX3_possible_31 (by decide) (fun hc14 => ?_) (fun hc14 => ?_)
        · replace hP := ite_t hc14 hP
          exact sK_X3_possible_40 hX hR  hk46 ih  hP
        · replace hP := ite_f hc14 hP
          refine V_iload_n hX dX3_possible_34 2 rfl ?_
          refine V_iconst (v := 1) hX dX3_possible_35 (by decide) ?_
          refine V_iload_n hX dX3_possible_36 3 rfl ?_
          refine V_ishl hX dX3_possible_37 ?_
          refine V_ior hX dX3_possible_38 ?_
          refine V_topi (fun x15 ex15 => ?_)
          replace hP := lt_r ex15 hP
          refine V_istore_n (lv' := [(2, .int x15), (0, rf S 76), (1, .int x1), (3, .int x3)]) hX dX3_possible_39 (by decide) rfl ?_
          refine V_sub (lv' := [(0, rf S 76), (1, .int x1), (2, .int x15), (3, .int x3)]) [1, 2, 0, 3] rfl ?_
          exact sK_X3_possible_40 hX hR  hk46 ih  hP
def P_X3_possible (F : Nat) (w : Wd) (x1 : Int32) : Option (Int32 × Wd) := L_X3_possible_4 F x1 (fun w x4 => some (x4, w)) F w 0 0
set_option maxRecDepth 100000 in
set_option maxHeartbeats 4000000 in
theorem s_X3_possible {X : Cx} {S : Sx} {r : Int32 × Wd} {F : Nat} {w : Wd} {x1 : Int32}  (hX : Ok X S cX3_possible RX3 4 rm_X3_possible) (hR : HRt X S cX3_possible .int r) (hP : P_X3_possible F w x1 = some r) : V X S w 0 [(0, rf S 76), (1, .int x1)] [] := by
  unfold P_X3_possible at hP
  refine V_iconst (v := 0) hX dX3_possible_0 (by decide) ?_
  refine V_istore_n (lv' := [(2, .int 0), (0, rf S 76), (1, .int x1)]) hX dX3_possible_1 (by decide) rfl ?_
  refine V_iconst (v := 0) hX dX3_possible_2 (by decide) ?_
  refine V_istore_n (lv' := [(3, .int 0), (2, .int 0), (0, rf S 76), (1, .int x1)]) hX dX3_possible_3 (by decide) rfl ?_
  refine V_sub (lv' := [(0, rf S 76), (1, .int x1), (2, .int 0), (3, .int 0)]) [2, 3, 1, 0] rfl ?_
  have k16 : ∀ (w : Wd) (x4 : Int32) , (some (x4, w)) = some r → V X S w 46 [(2, .int x4)] [] := by
    intro w x4  hP
    refine V_iload_n hX dX3_possible_46 0 rfl ?_
    exact hR _ _ _ _ (Option.some.inj hP) rfl dX3_possible_47
  exact sL_X3_possible_4 hX hR  k16 F _ _ _  hP
theorem c_X3_possible (l : Launch) (S : Sx) {r : Int32 × Wd} {F : Nat} {w : Wd} {x1 : Int32}  (h : P_X3_possible F w x1 = some r) : Met l yX3_possible (wsg yX3_possible cX3_possible 4 (some .int)) rm_X3_possible (PC S w [rf S 76, .int x1]) (QCi S r) 0 0 (Aw S) :=
  met_i (by decide) rfl (Nat.le_of_ble_eq_true rfl) ⟨rfl, rfl⟩ (fun X hX hR => s_X3_possible  hX hR h)

-- MustNotStop$Past.clear()V
abbrev rm_X4_clear : Room := { frames := 1, cells := 0, slots := 0, locals := 64 }
theorem nk_X4_clear : MNk yX4_clear RX4 0 := ⟨rfl, by decide, by decide, by decide +kernel⟩
def P_X4_clear (F : Nat) (w : Wd)  : Option (Wd) := lt (sI w 29 2 0) (fun w1 => some w1)
set_option maxRecDepth 100000 in
set_option maxHeartbeats 4000000 in
theorem s_X4_clear {X : Cx} {S : Sx} {r : Wd} {F : Nat} {w : Wd}   (hX : Ok X S cX4_clear RX4 1 rm_X4_clear) (hR : HRv X S cX4_clear r) (hP : P_X4_clear F w  = some r) : V X S w 0 [(0, rf S 29)] [] := by
  unfold P_X4_clear at hP
  refine V_aload_n hX dX4_clear_0 0 rfl ?_
  refine V_iconst (v := 0) hX dX4_clear_1 (by decide) ?_
  refine V_putI hX fw_X4_21 tb_29 (fun _ _ _ => ⟨Nat.le_of_ble_eq_true rfl, rfl⟩) dX4_clear_2 (fun w1 ew1 => ?_)
  replace hP := lt_r ew1 hP
  exact hR _ _ _ (Option.some.inj hP) dX4_clear_5
theorem c_X4_clear (l : Launch) (S : Sx) {r : Wd} {F : Nat} {w : Wd}   (h : P_X4_clear F w  = some r) : Met l yX4_clear (wsg yX4_clear cX4_clear 1 none) rm_X4_clear (PC S w [rf S 29]) (QCv S r) 0 0 (Aw S) :=
  met_v (by decide) rfl (Nat.le_of_ble_eq_true rfl) ⟨rfl, rfl⟩ (fun X hX hR => s_X4_clear  hX hR h)
