-- ===== the bench =====
def selF (x : Int32) (ro : Nat → Int32) (k : Nat) : Nat → Int32 := fun j => if j < k then bt x j else ro j
theorem selF_0 (x : Int32) (ro : Nat → Int32) : selF x ro 0 = ro := by funext j; unfold selF; rw [if_neg (Nat.not_lt_zero j)]
theorem upd_selF (x : Int32) (ro : Nat → Int32) (k : Nat) : upd (selF x ro k) k (bt x k) = selF x ro (k + 1) := by
  funext j
  unfold upd selF
  by_cases h : j = k
  · subst h; rw [if_pos rfl, if_pos (Nat.lt_succ_self _)]
  · rw [if_neg h]
    by_cases h2 : j < k
    · rw [if_pos h2, if_pos (by omega)]
    · rw [if_neg h2, if_neg (by omega)]
def accL (f ro : Nat → Int32) : Nat → Int32
  | 0 => 0
  | k + 1 => if ro k = 0 then accL f ro k else accL f ro k + f k
def byI (r str t n w f st no : Int32) : Int32 := if r = 0 then str * 10 - t - w * 3 - f else if r = 1 then str * 8 - t * 2 else if r = 2 then str * n * 6 - w * 3 - t else if r = 3 then st / 5 + str - f - t else if r = 4 then str * 9 - iremI no 60 - t else if r = 5 then (if t < 20 then str else 0) - f else if r = 6 then str * str - t - w else 40 - t - w * 2 + n
def loudI (r w f : Int32) (f0 ti ro : Nat → Int32) (n : Nat) (st no : Int32) : Int32 := if accL (fun _ => 1) ro n = 0 then 0 else if st = 0 then 0 else byI r (accL f0 ro n) (accL ti ro n) (accL (fun _ => 1) ro n) w f st no
abbrev rmY_X11_only : Room := { frames := 3, cells := 4, slots := 33, locals := 81 }
set_option maxHeartbeats 4000000 in
theorem cY_X11_only {S : Sx} {K : Kx} {E : Ex} (hE : Stb E) (hF : ∀ (A : Nat → Prop) (s : State), E A s → KF S K A s s.heap) (x : Int32) (n p : Nat) (a : Nat → Nat) (ti ro db : Nat → Int32) (st no ru si sp pa : Int32) (hn : n ≤ 8) (hp : p ≤ 8) (hr : ∀ k, ro k = 0 ∨ ro k = 1) (hd : ∀ k, db k = 0 ∨ db k = 1) : CY S K E yX11_only cX11_only 4 (some (.object "MustNotStopLaw$Bench$State")) rmY_X11_only [.ref (a 0), .int x] ([stC S n p a ti ro db st no ru si sp pa]) (QYq S ([stC S n p a ti ro db st no ru si sp pa]) (fun u => some (u 0)) (fun u => [stC S n p a ti ro db st no ru si sp pa, stC S n p u ti (selF x ro n) db st no ru si sp pa])) 4 33 := by
  refine y_metq (own := RX11) (.inl ⟨_, rfl⟩) (by decide +kernel) rfl (Nat.le_of_ble_eq_true rfl) hE (fun X A hX hE2 hI hR => ?_)
  show Y X S K A 0 0 [stC S n p a ti ro db st no ru si sp pa] 0 [(0, .ref (a 0)), (1, .int x)] []
  refine Y_aload_n hX dX11_only_0 0 rfl ?_
  refine Y_resq hX (sub := [stC S n p a ti ro db st no ru si sp pa]) (rst := []) rfl (Y_runV (b := 0) (i := 0) (As := []) (rest := []) hX hE2 mk_X11_47 nkY_X11_copy hE (cY_X11_copy hE hF n p a ti ro db st no ru si sp pa hn hp hr hd) rfl Ecall.same rfl rfl rfl ⟨rfl, rfl⟩ ⟨Nat.le_of_ble_eq_true rfl, Nat.le_of_ble_eq_true rfl⟩ rfl rfl (Nat.le_of_ble_eq_true rfl) dX11_only_1 ⟨Nat.le_of_ble_eq_true rfl, Nat.le_of_ble_eq_true rfl⟩) (fun u1 => ?_)
  show Y X S K A 4 33 [stC S n p a ti ro db st no ru si sp pa, stC S n p u1 ti ro db st no ru si sp pa] 4 [(0, .ref (a 0)), (1, .int x)] [.ref (u1 0)]
  have loop : ∀ (m k : Nat), k + m = n → Y X S K A 4 33 [stC S n p a ti ro db st no ru si sp pa, stC S n p u1 ti (selF x ro k) db st no ru si sp pa] 7 [(3, .int (nI k)), (2, .ref (u1 0)), (1, .int x), (0, .ref (a 0))] [] := by
    intro m
    induction m with
    | zero =>
      intro k hk
      obtain rfl : k = n := by omega
      refine Y_iload_n hX dX11_only_7 0 rfl ?_
      refine Y_aload_n hX dX11_only_8 3 rfl ?_
      refine Y_get 0 0 hX fk_X11_23 rfl rfl rfl dX11_only_9 ?_
      refine Y_alen (t0 := 2) (v := nI k) 0 2 hX rfl rfl rfl rfl dX11_only_12 ?_
      refine Y_icmp_ge (tgt := 42) hX dX11_only_13 (by decide) (fun _ => ?_) (fun z => absurd (nI_le (Nat.le_refl _) (by omega)) z)
      refine Y_aload_n hX dX11_only_42 1 rfl ?_
      exact hR u1 _ _ dX11_only_43
    | succ m ih =>
      intro k hk
      refine Y_iload_n hX dX11_only_7 0 rfl ?_
      refine Y_aload_n hX dX11_only_8 3 rfl ?_
      refine Y_get 0 0 hX fk_X11_23 rfl rfl rfl dX11_only_9 ?_
      refine Y_alen (t0 := 2) (v := nI n) 0 2 hX rfl rfl rfl rfl dX11_only_12 ?_
      refine Y_icmp_ge (tgt := 42) hX dX11_only_13 (by decide) (fun z => absurd z (nI_ge (show k < n by omega) (by omega))) (fun _ => ?_)
      refine Y_aload_n hX dX11_only_16 1 rfl ?_
      refine Y_get 1 0 hX fk_X11_23 rfl rfl rfl dX11_only_17 ?_
      refine Y_iload_n hX dX11_only_20 0 rfl ?_
      refine Y_iload_n hX dX11_only_21 2 rfl ?_
      refine Y_iload_n hX dX11_only_22 0 rfl ?_
      refine Y_ishr hX dX11_only_23 ?_
      refine Y_iconst (v := 1) hX dX11_only_24 (by decide) ?_
      refine Y_iand hX dX11_only_25 ?_
      refine Y_iconst (v := 1) hX dX11_only_26 (by decide) ?_
      refine Y_icmp_ne (tgt := 34) hX dX11_only_27 (by decide) (fun h27 => ?_) (fun h27 => ?_)
      · refine Y_iconst (v := 0) hX dX11_only_34 (by decide) ?_
        refine Y_eqi (x' := bt x k) (by rcases bt01 x k with z | z; exact z.symm; exact absurd z h27) ?_
        refine Y_zast 1 2 hX rfl rfl (vp_in_nI (by omega) (by omega)) dX11_only_35 ?_
        show Y X S K A 4 33 [stC S n p a ti ro db st no ru si sp pa, [(u1 0, .inr (13, [.ref (u1 1), .ref (u1 2), .int st, .int no, .int ru, .int si, .int sp, .int pa, .ref (u1 3)])), (u1 1, .inl (cAr S 0, n, .inl ti)), (u1 2, .inl (cAr S 2, n, .inl (upd (selF x ro k) (nI k).toNatClampNeg (vp_nar .boolean (bt x k))))), (u1 3, .inl (cAr S 2, p, .inl db))]] 36 [(3, .int (nI k)), (2, .ref (u1 0)), (1, .int x), (0, .ref (a 0))] []
        rw [show (upd (selF x ro k) (nI k).toNatClampNeg (vp_nar .boolean (bt x k))) = selF x ro (k + 1) from by rw [nI_clamp (by omega), nar01 (bt01 x k)]; exact upd_selF x ro k]
        refine Y_iinc (v := nI (k + 1)) (lv' := [(3, .int (nI (k + 1))), (2, .ref (u1 0)), (1, .int x), (0, .ref (a 0))]) hX dX11_only_36 (j := 0) rfl (by decide) (iinc1 k) rfl ?_
        refine Y_goto (tgt := 7) hX dX11_only_39 (by decide) ?_
        exact ih (k + 1) (by omega)
      · refine Y_iconst (v := 1) hX dX11_only_30 (by decide) ?_
        refine Y_goto (tgt := 35) hX dX11_only_31 (by decide) ?_
        refine Y_eqi (x' := bt x k) h27.symm ?_
        refine Y_zast 1 2 hX rfl rfl (vp_in_nI (by omega) (by omega)) dX11_only_35 ?_
        show Y X S K A 4 33 [stC S n p a ti ro db st no ru si sp pa, [(u1 0, .inr (13, [.ref (u1 1), .ref (u1 2), .int st, .int no, .int ru, .int si, .int sp, .int pa, .ref (u1 3)])), (u1 1, .inl (cAr S 0, n, .inl ti)), (u1 2, .inl (cAr S 2, n, .inl (upd (selF x ro k) (nI k).toNatClampNeg (vp_nar .boolean (bt x k))))), (u1 3, .inl (cAr S 2, p, .inl db))]] 36 [(3, .int (nI k)), (2, .ref (u1 0)), (1, .int x), (0, .ref (a 0))] []
        rw [show (upd (selF x ro k) (nI k).toNatClampNeg (vp_nar .boolean (bt x k))) = selF x ro (k + 1) from by rw [nI_clamp (by omega), nar01 (bt01 x k)]; exact upd_selF x ro k]
        refine Y_iinc (v := nI (k + 1)) (lv' := [(3, .int (nI (k + 1))), (2, .ref (u1 0)), (1, .int x), (0, .ref (a 0))]) hX dX11_only_36 (j := 0) rfl (by decide) (iinc1 k) rfl ?_
        refine Y_goto (tgt := 7) hX dX11_only_39 (by decide) ?_
        exact ih (k + 1) (by omega)
  refine Y_astore_n (lv' := [(2, .ref (u1 0)), (0, .ref (a 0)), (1, .int x)]) hX dX11_only_4 (by decide) rfl ?_
  refine Y_iconst (v := 0) hX dX11_only_5 (by decide) ?_
  refine Y_istore_n (lv' := [(3, .int 0), (2, .ref (u1 0)), (0, .ref (a 0)), (1, .int x)]) hX dX11_only_6 (by decide) rfl ?_
  refine Y_bl (bl' := [stC S n p a ti ro db st no ru si sp pa, stC S n p u1 ti (selF x ro 0) db st no ru si sp pa]) (by rw [selF_0]) ?_
  refine Y_sub (lv' := [(3, .int 0), (2, .ref (u1 0)), (1, .int x), (0, .ref (a 0))]) [0, 1, 3, 2] rfl ?_
  exact loop n 0 (by omega)
abbrev rmY_X12_by : Room := { frames := 0, cells := 0, slots := 0, locals := 0 }
set_option maxHeartbeats 4000000 in
theorem cY_X12_by {S : Sx} {K : Kx} {E : Ex} (hE : Stb E) (hF : ∀ (A : Nat → Prop) (s : State), E A s → KF S K A s s.heap) (str t c : Int32) (n p : Nat) (a : Nat → Nat) (ti ro db : Nat → Int32) (st no ru si sp pa : Int32) (b ra rb : Nat → Nat) (w f mo r : Int32) (hn : n ≤ 8) (hp : p ≤ 8) : CY S K E yX12_by cX12_by 6 (some .int) rmY_X12_by [.ref (b 0), .ref (a 0), .int str, .int t, .int c] ([stC S n p a ti ro db st no ru si sp pa, bnC S K n p b ra rb w f mo r]) (QYi S ([stC S n p a ti ro db st no ru si sp pa, bnC S K n p b ra rb w f mo r]) (byI r str t c w f st no) (fun _ => [stC S n p a ti ro db st no ru si sp pa, bnC S K n p b ra rb w f mo r])) 0 0 := by
  refine y_meti (own := RX12) (by decide +kernel) rfl (Nat.le_of_ble_eq_true rfl) hE (fun X A hX hE2 hI hR => ?_)
  show Y X S K A 0 0 [stC S n p a ti ro db st no ru si sp pa, bnC S K n p b ra rb w f mo r] 0 [(0, .ref (b 0)), (1, .ref (a 0)), (2, .int str), (3, .int t), (4, .int c)] []
  refine Y_aload_n hX dX12_by_0 1 rfl ?_
  refine Y_get 0 0 hX fk_X12_55 rfl rfl rfl dX12_by_1 ?_
  refine Y_bipush (v := 60) hX dX12_by_4 (by decide) ?_
  refine Y_irem hX dX12_by_6 (by decide) ?_
  refine Y_istore (lv' := [(5, .int (iremI no 60)), (0, .ref (b 0)), (1, .ref (a 0)), (2, .int str), (3, .int t), (4, .int c)]) hX dX12_by_7 (by decide) rfl ?_
  refine Y_aload_n hX dX12_by_9 1 rfl ?_
  refine Y_get 1 0 hX fk_X12_61 rfl rfl rfl dX12_by_10 ?_
  by_cases hs13_0 : r = 0
  · refine Y_tableIn (tgt := 56) hX dX12_by_13 (by rw [hs13_0]; decide) (by rw [hs13_0]; decide) (by rw [hs13_0] <;> rfl) (by decide) ?_
    refine Y_iload_n hX dX12_by_56 3 rfl ?_
    refine Y_bipush (v := 10) hX dX12_by_57 (by decide) ?_
    refine Y_imul hX dX12_by_59 ?_
    refine Y_iload_n hX dX12_by_60 4 rfl ?_
    refine Y_isub hX dX12_by_61 ?_
    refine Y_aload_n hX dX12_by_62 1 rfl ?_
    refine Y_get 1 0 hX fk_X12_64 rfl rfl rfl dX12_by_63 ?_
    refine Y_iconst (v := 3) hX dX12_by_66 (by decide) ?_
    refine Y_imul hX dX12_by_67 ?_
    refine Y_isub hX dX12_by_68 ?_
    refine Y_aload_n hX dX12_by_69 1 rfl ?_
    refine Y_get 1 0 hX fk_X12_67 rfl rfl rfl dX12_by_70 ?_
    refine Y_isub hX dX12_by_73 ?_
    refine Y_eqi (x' := byI r str t c w f st no) (by unfold byI; rw [if_pos hs13_0]) ?_
    exact hR (fun _ => 0) _ _ rfl dX12_by_74
  by_cases hs13_1 : r = 1
  · refine Y_tableIn (tgt := 75) hX dX12_by_13 (by rw [hs13_1]; decide) (by rw [hs13_1]; decide) (by rw [hs13_1] <;> rfl) (by decide) ?_
    refine Y_iload_n hX dX12_by_75 3 rfl ?_
    refine Y_bipush (v := 8) hX dX12_by_76 (by decide) ?_
    refine Y_imul hX dX12_by_78 ?_
    refine Y_iload_n hX dX12_by_79 4 rfl ?_
    refine Y_iconst (v := 2) hX dX12_by_80 (by decide) ?_
    refine Y_imul hX dX12_by_81 ?_
    refine Y_isub hX dX12_by_82 ?_
    refine Y_eqi (x' := byI r str t c w f st no) (by unfold byI; rw [if_neg hs13_0, if_pos hs13_1]) ?_
    exact hR (fun _ => 0) _ _ rfl dX12_by_83
  by_cases hs13_2 : r = 2
  · refine Y_tableIn (tgt := 84) hX dX12_by_13 (by rw [hs13_2]; decide) (by rw [hs13_2]; decide) (by rw [hs13_2] <;> rfl) (by decide) ?_
    refine Y_iload_n hX dX12_by_84 3 rfl ?_
    refine Y_iload hX dX12_by_85 5 rfl ?_
    refine Y_imul hX dX12_by_87 ?_
    refine Y_bipush (v := 6) hX dX12_by_88 (by decide) ?_
    refine Y_imul hX dX12_by_90 ?_
    refine Y_aload_n hX dX12_by_91 1 rfl ?_
    refine Y_get 1 0 hX fk_X12_64 rfl rfl rfl dX12_by_92 ?_
    refine Y_iconst (v := 3) hX dX12_by_95 (by decide) ?_
    refine Y_imul hX dX12_by_96 ?_
    refine Y_isub hX dX12_by_97 ?_
    refine Y_iload_n hX dX12_by_98 4 rfl ?_
    refine Y_isub hX dX12_by_99 ?_
    refine Y_eqi (x' := byI r str t c w f st no) (by unfold byI; rw [if_neg hs13_0, if_neg hs13_1, if_pos hs13_2]) ?_
    exact hR (fun _ => 0) _ _ rfl dX12_by_100
  by_cases hs13_3 : r = 3
  · refine Y_tableIn (tgt := 101) hX dX12_by_13 (by rw [hs13_3]; decide) (by rw [hs13_3]; decide) (by rw [hs13_3] <;> rfl) (by decide) ?_
    refine Y_aload_n hX dX12_by_101 2 rfl ?_
    refine Y_get 0 0 hX fk_X12_70 rfl rfl rfl dX12_by_102 ?_
    refine Y_iconst (v := 5) hX dX12_by_105 (by decide) ?_
    refine Y_idiv hX dX12_by_106 (by decide) ?_
    refine Y_iload_n hX dX12_by_107 3 rfl ?_
    refine Y_iadd hX dX12_by_108 ?_
    refine Y_aload_n hX dX12_by_109 1 rfl ?_
    refine Y_get 1 0 hX fk_X12_67 rfl rfl rfl dX12_by_110 ?_
    refine Y_isub hX dX12_by_113 ?_
    refine Y_iload_n hX dX12_by_114 4 rfl ?_
    refine Y_isub hX dX12_by_115 ?_
    refine Y_eqi (x' := byI r str t c w f st no) (by unfold byI; rw [if_neg hs13_0, if_neg hs13_1, if_neg hs13_2, if_pos hs13_3]) ?_
    exact hR (fun _ => 0) _ _ rfl dX12_by_116
  by_cases hs13_4 : r = 4
  · refine Y_tableIn (tgt := 117) hX dX12_by_13 (by rw [hs13_4]; decide) (by rw [hs13_4]; decide) (by rw [hs13_4] <;> rfl) (by decide) ?_
    refine Y_iload_n hX dX12_by_117 3 rfl ?_
    refine Y_bipush (v := 9) hX dX12_by_118 (by decide) ?_
    refine Y_imul hX dX12_by_120 ?_
    refine Y_iload hX dX12_by_121 0 rfl ?_
    refine Y_isub hX dX12_by_123 ?_
    refine Y_iload_n hX dX12_by_124 4 rfl ?_
    refine Y_isub hX dX12_by_125 ?_
    refine Y_eqi (x' := byI r str t c w f st no) (by unfold byI; rw [if_neg hs13_0, if_neg hs13_1, if_neg hs13_2, if_neg hs13_3, if_pos hs13_4]) ?_
    exact hR (fun _ => 0) _ _ rfl dX12_by_126
  by_cases hs13_5 : r = 5
  · refine Y_tableIn (tgt := 127) hX dX12_by_13 (by rw [hs13_5]; decide) (by rw [hs13_5]; decide) (by rw [hs13_5] <;> rfl) (by decide) ?_
    refine Y_iload_n hX dX12_by_127 4 rfl ?_
    refine Y_bipush (v := 20) hX dX12_by_128 (by decide) ?_
    refine Y_icmp_ge (tgt := 137) hX dX12_by_130 (by decide) (fun h130 => ?_) (fun h130 => ?_)
    · refine Y_iconst (v := 0) hX dX12_by_137 (by decide) ?_
      refine Y_aload_n hX dX12_by_138 1 rfl ?_
      refine Y_get 1 0 hX fk_X12_67 rfl rfl rfl dX12_by_139 ?_
      refine Y_isub hX dX12_by_142 ?_
      refine Y_eqi (x' := byI r str t c w f st no) (by unfold byI; rw [if_neg hs13_0, if_neg hs13_1, if_neg hs13_2, if_neg hs13_3, if_neg hs13_4, if_pos hs13_5]; rw [if_neg (Int32.not_lt.mpr h130)]) ?_
      exact hR (fun _ => 0) _ _ rfl dX12_by_143
    · refine Y_iload_n hX dX12_by_133 3 rfl ?_
      refine Y_goto (tgt := 138) hX dX12_by_134 (by decide) ?_
      refine Y_aload_n hX dX12_by_138 1 rfl ?_
      refine Y_get 1 0 hX fk_X12_67 rfl rfl rfl dX12_by_139 ?_
      refine Y_isub hX dX12_by_142 ?_
      refine Y_eqi (x' := byI r str t c w f st no) (by unfold byI; rw [if_neg hs13_0, if_neg hs13_1, if_neg hs13_2, if_neg hs13_3, if_neg hs13_4, if_pos hs13_5]; rw [if_pos (Int32.not_le.mp h130)]) ?_
      exact hR (fun _ => 0) _ _ rfl dX12_by_143
  by_cases hs13_6 : r = 6
  · refine Y_tableIn (tgt := 144) hX dX12_by_13 (by rw [hs13_6]; decide) (by rw [hs13_6]; decide) (by rw [hs13_6] <;> rfl) (by decide) ?_
    refine Y_iload_n hX dX12_by_144 3 rfl ?_
    refine Y_iload_n hX dX12_by_145 3 rfl ?_
    refine Y_imul hX dX12_by_146 ?_
    refine Y_iload_n hX dX12_by_147 4 rfl ?_
    refine Y_isub hX dX12_by_148 ?_
    refine Y_aload_n hX dX12_by_149 1 rfl ?_
    refine Y_get 1 0 hX fk_X12_64 rfl rfl rfl dX12_by_150 ?_
    refine Y_isub hX dX12_by_153 ?_
    refine Y_eqi (x' := byI r str t c w f st no) (by unfold byI; rw [if_neg hs13_0, if_neg hs13_1, if_neg hs13_2, if_neg hs13_3, if_neg hs13_4, if_neg hs13_5, if_pos hs13_6]) ?_
    exact hR (fun _ => 0) _ _ rfl dX12_by_154
  refine Y_tableOut (tgt := 155) hX dX12_by_13 (ts_out (fun k h1 h2 => by
      have hk : k = 0 ∨ k = 1 ∨ k = 2 ∨ k = 3 ∨ k = 4 ∨ k = 5 ∨ k = 6 := by omega
      rcases hk with rfl | rfl | rfl | rfl | rfl | rfl | rfl
      · exact fun e => hs13_0 (by rw [e]; rfl)
      · exact fun e => hs13_1 (by rw [e]; rfl)
      · exact fun e => hs13_2 (by rw [e]; rfl)
      · exact fun e => hs13_3 (by rw [e]; rfl)
      · exact fun e => hs13_4 (by rw [e]; rfl)
      · exact fun e => hs13_5 (by rw [e]; rfl)
      · exact fun e => hs13_6 (by rw [e]; rfl)
      )) (by decide) ?_
  refine Y_bipush (v := 40) hX dX12_by_155 (by decide) ?_
  refine Y_iload_n hX dX12_by_157 4 rfl ?_
  refine Y_isub hX dX12_by_158 ?_
  refine Y_aload_n hX dX12_by_159 1 rfl ?_
  refine Y_get 1 0 hX fk_X12_64 rfl rfl rfl dX12_by_160 ?_
  refine Y_iconst (v := 2) hX dX12_by_163 (by decide) ?_
  refine Y_imul hX dX12_by_164 ?_
  refine Y_isub hX dX12_by_165 ?_
  refine Y_iload hX dX12_by_166 5 rfl ?_
  refine Y_iadd hX dX12_by_168 ?_
  refine Y_eqi (x' := byI r str t c w f st no) (by unfold byI; rw [if_neg hs13_0, if_neg hs13_1, if_neg hs13_2, if_neg hs13_3, if_neg hs13_4, if_neg hs13_5, if_neg hs13_6]) ?_
  exact hR (fun _ => 0) _ _ rfl dX12_by_169
abbrev rmY_X12_loud : Room := { frames := 1, cells := 0, slots := 0, locals := 25 }
set_option maxHeartbeats 4000000 in
theorem cY_X12_loud {S : Sx} {K : Kx} {E : Ex} (hE : Stb E) (hF : ∀ (A : Nat → Prop) (s : State), E A s → KF S K A s s.heap) (n p : Nat) (a : Nat → Nat) (ti ro db : Nat → Int32) (st no ru si sp pa : Int32) (b ra rb : Nat → Nat) (w f mo r : Int32) (f0 g0 : Nat → Int32) (hn : n ≤ 8) (hp : p ≤ 8) : CY S K E yX12_loud cX12_loud 6 (some .int) rmY_X12_loud [.ref (b 0), .ref (a 0)] ([stC S n p a ti ro db st no ru si sp pa, bnC S K n p b ra rb w f mo r, rwC S n ra f0 g0]) (QYi S ([stC S n p a ti ro db st no ru si sp pa, bnC S K n p b ra rb w f mo r, rwC S n ra f0 g0]) (loudI r w f f0 ti ro n st no) (fun _ => [stC S n p a ti ro db st no ru si sp pa, bnC S K n p b ra rb w f mo r, rwC S n ra f0 g0])) 0 0 := by
  refine y_meti (own := RX12) (by decide +kernel) rfl (Nat.le_of_ble_eq_true rfl) hE (fun X A hX hE2 hI hR => ?_)
  show Y X S K A 0 0 [stC S n p a ti ro db st no ru si sp pa, bnC S K n p b ra rb w f mo r, rwC S n ra f0 g0] 0 [(0, .ref (b 0)), (1, .ref (a 0))] []
  have loop : ∀ (m k : Nat), k + m = n → Y X S K A 0 0 [stC S n p a ti ro db st no ru si sp pa, bnC S K n p b ra rb w f mo r, rwC S n ra f0 g0] 10 [(5, .int (nI k)), (4, .int (accL (fun _ => 1) ro k)), (3, .int (accL ti ro k)), (2, .int (accL f0 ro k)), (1, .ref (a 0)), (0, .ref (b 0))] [] := by
    intro m
    induction m with
    | zero =>
      intro k hk
      obtain rfl : k = n := by omega
      refine Y_iload hX dX12_loud_10 0 rfl ?_
      refine Y_aload_n hX dX12_loud_12 5 rfl ?_
      refine Y_get 1 0 hX fk_X12_73 rfl rfl rfl dX12_loud_13 ?_
      refine Y_alen (t0 := 5) (v := nI k) 1 1 hX rfl rfl rfl rfl dX12_loud_16 ?_
      refine Y_icmp_ge (tgt := 61) hX dX12_loud_17 (by decide) (fun _ => ?_) (fun z => absurd (nI_le (Nat.le_refl _) (by omega)) z)
      refine Y_iload hX dX12_loud_61 1 rfl ?_
      refine Y_if_eq (tgt := 73) hX dX12_loud_63 (by decide) (fun h63 => ?_) (fun h63 => ?_)
      · refine Y_iconst (v := 0) hX dX12_loud_73 (by decide) ?_
        refine Y_goto (tgt := 86) hX dX12_loud_74 (by decide) ?_
        refine Y_eqi (x' := loudI r w f f0 ti ro k st no) (by unfold loudI; rw [if_pos h63]) ?_
        exact hR (fun _ => 0) _ _ rfl dX12_loud_86
      · refine Y_aload_n hX dX12_loud_66 4 rfl ?_
        refine Y_get 0 0 hX fk_X12_70 rfl rfl rfl dX12_loud_67 ?_
        refine Y_if_ne (tgt := 77) hX dX12_loud_70 (by decide) (fun h70 => ?_) (fun h70 => ?_)
        · refine Y_aload_n hX dX12_loud_77 5 rfl ?_
          refine Y_aload_n hX dX12_loud_78 4 rfl ?_
          refine Y_iload_n hX dX12_loud_79 3 rfl ?_
          refine Y_iload_n hX dX12_loud_80 2 rfl ?_
          refine Y_iload hX dX12_loud_81 1 rfl ?_
          refine Y_resi hX (sub := [stC S k p a ti ro db st no ru si sp pa, bnC S K k p b ra rb w f mo r]) (rst := [rwC S k ra f0 g0]) rfl (Y_runV (b := 1) (i := 0) (As := [.ref (a 0), .int (accL f0 ro k), .int (accL ti ro k), .int (accL (fun _ => 1) ro k)]) (rest := []) hX hE2 mk_X12_85 nkY_X12_by hE (cY_X12_by hE hF _ _ _ k p a ti ro db st no ru si sp pa b ra rb w f mo r hn hp) rfl Ecall.same rfl rfl rfl ⟨rfl, rfl⟩ ⟨Nat.le_of_ble_eq_true rfl, Nat.le_of_ble_eq_true rfl⟩ rfl rfl (Nat.le_of_ble_eq_true rfl) dX12_loud_83 ⟨Nat.le_of_ble_eq_true rfl, Nat.le_of_ble_eq_true rfl⟩) (fun u83 => ?_)
          show Y X S K A 0 0 [stC S k p a ti ro db st no ru si sp pa, bnC S K k p b ra rb w f mo r, rwC S k ra f0 g0] 86 [(5, .int (nI k)), (4, .int (accL (fun _ => 1) ro k)), (3, .int (accL ti ro k)), (2, .int (accL f0 ro k)), (1, .ref (a 0)), (0, .ref (b 0))] [.int (byI r (accL f0 ro k) (accL ti ro k) (accL (fun _ => 1) ro k) w f st no)]
          refine Y_eqi (x' := loudI r w f f0 ti ro k st no) (by unfold loudI; rw [if_neg h63, if_neg h70]) ?_
          exact hR (fun _ => 0) _ _ rfl dX12_loud_86
        · refine Y_iconst (v := 0) hX dX12_loud_73 (by decide) ?_
          refine Y_goto (tgt := 86) hX dX12_loud_74 (by decide) ?_
          refine Y_eqi (x' := loudI r w f f0 ti ro k st no) (by unfold loudI; rw [if_neg h63, if_pos h70]) ?_
          exact hR (fun _ => 0) _ _ rfl dX12_loud_86
    | succ m ih =>
      intro k hk
      refine Y_iload hX dX12_loud_10 0 rfl ?_
      refine Y_aload_n hX dX12_loud_12 5 rfl ?_
      refine Y_get 1 0 hX fk_X12_73 rfl rfl rfl dX12_loud_13 ?_
      refine Y_alen (t0 := 5) (v := nI n) 1 1 hX rfl rfl rfl rfl dX12_loud_16 ?_
      refine Y_icmp_ge (tgt := 61) hX dX12_loud_17 (by decide) (fun z => absurd z (nI_ge (show k < n by omega) (by omega))) (fun _ => ?_)
      refine Y_aload_n hX dX12_loud_20 4 rfl ?_
      refine Y_get 0 0 hX fk_X12_77 rfl rfl rfl dX12_loud_21 ?_
      refine Y_iload hX dX12_loud_24 0 rfl ?_
      refine Y_zald (v := ro k) 0 2 hX rfl rfl (vp_in_nI (by omega) (by omega)) (at8 (by omega)) dX12_loud_26 ?_
      refine Y_if_eq (tgt := 55) hX dX12_loud_27 (by decide) (fun h27 => ?_) (fun h27 => ?_)
      · refine Y_iinc (v := nI (k + 1)) (lv' := [(5, .int (nI (k + 1))), (4, .int (accL (fun _ => 1) ro k)), (3, .int (accL ti ro k)), (2, .int (accL f0 ro k)), (1, .ref (a 0)), (0, .ref (b 0))]) hX dX12_loud_55 (j := 0) rfl (by decide) (iinc1 k) rfl ?_
        refine Y_goto (tgt := 10) hX dX12_loud_58 (by decide) ?_
        have z := ih (k + 1) (by omega)
        rw [show accL (fun _ => 1) ro (k + 1) = accL (fun _ => 1) ro k from if_pos h27] at z
        rw [show accL ti ro (k + 1) = accL ti ro k from if_pos h27] at z
        rw [show accL f0 ro (k + 1) = accL f0 ro k from if_pos h27] at z
        exact z
      · refine Y_iload_n hX dX12_loud_30 3 rfl ?_
        refine Y_aload_n hX dX12_loud_31 5 rfl ?_
        refine Y_get 1 0 hX fk_X12_73 rfl rfl rfl dX12_loud_32 ?_
        refine Y_iload hX dX12_loud_35 0 rfl ?_
        refine Y_aaldI (v := some (ra k)) 1 1 hX rfl rfl (vp_in_nI (by omega) (by omega)) (outC_at (by omega) hn) dX12_loud_37 ?_
        show Y X S K A 0 0 [stC S n p a ti ro db st no ru si sp pa, bnC S K n p b ra rb w f mo r, rwC S n ra f0 g0] 38 [(5, .int (nI k)), (4, .int (accL (fun _ => 1) ro k)), (3, .int (accL ti ro k)), (2, .int (accL f0 ro k)), (1, .ref (a 0)), (0, .ref (b 0))] [.ref (ra k), .int (accL f0 ro k)]
        refine Y_iconst (v := 0) hX dX12_loud_38 (by decide) ?_
        refine Y_iald (v := f0 k) 2 k hX rfl (rwC_at (by omega)) (inB_in (by decide)) rfl dX12_loud_39 ?_
        refine Y_iadd hX dX12_loud_40 ?_
        refine Y_istore_n (lv' := [(2, .int ((accL f0 ro k) + (f0 k))), (5, .int (nI k)), (4, .int (accL (fun _ => 1) ro k)), (3, .int (accL ti ro k)), (1, .ref (a 0)), (0, .ref (b 0))]) hX dX12_loud_41 (by decide) rfl ?_
        refine Y_iload_n hX dX12_loud_42 3 rfl ?_
        refine Y_aload_n hX dX12_loud_43 4 rfl ?_
        refine Y_get 0 0 hX fk_X12_81 rfl rfl rfl dX12_loud_44 ?_
        refine Y_iload hX dX12_loud_47 1 rfl ?_
        refine Y_iald (v := ti k) 0 1 hX rfl rfl (vp_in_nI (by omega) (by omega)) (at8 (by omega)) dX12_loud_49 ?_
        refine Y_iadd hX dX12_loud_50 ?_
        refine Y_istore_n (lv' := [(3, .int ((accL ti ro k) + (ti k))), (2, .int ((accL f0 ro k) + (f0 k))), (5, .int (nI k)), (4, .int (accL (fun _ => 1) ro k)), (1, .ref (a 0)), (0, .ref (b 0))]) hX dX12_loud_51 (by decide) rfl ?_
        refine Y_iinc (v := accL (fun _ => 1) ro k + 1) (lv' := [(4, .int (accL (fun _ => 1) ro k + 1)), (3, .int ((accL ti ro k) + (ti k))), (2, .int ((accL f0 ro k) + (f0 k))), (5, .int (nI k)), (1, .ref (a 0)), (0, .ref (b 0))]) hX dX12_loud_52 (j := 3) rfl (by decide) rfl rfl ?_
        refine Y_iinc (v := nI (k + 1)) (lv' := [(5, .int (nI (k + 1))), (4, .int (accL (fun _ => 1) ro k + 1)), (3, .int ((accL ti ro k) + (ti k))), (2, .int ((accL f0 ro k) + (f0 k))), (1, .ref (a 0)), (0, .ref (b 0))]) hX dX12_loud_55 (j := 3) rfl (by decide) (iinc1 k) rfl ?_
        refine Y_goto (tgt := 10) hX dX12_loud_58 (by decide) ?_
        have z := ih (k + 1) (by omega)
        rw [show accL (fun _ => 1) ro (k + 1) = accL (fun _ => 1) ro k + 1 from if_neg h27] at z
        rw [show accL ti ro (k + 1) = accL ti ro k + ti k from if_neg h27] at z
        rw [show accL f0 ro (k + 1) = accL f0 ro k + f0 k from if_neg h27] at z
        exact z
  refine Y_iconst (v := 0) hX dX12_loud_0 (by decide) ?_
  refine Y_istore_n (lv' := [(2, .int 0), (0, .ref (b 0)), (1, .ref (a 0))]) hX dX12_loud_1 (by decide) rfl ?_
  refine Y_iconst (v := 0) hX dX12_loud_2 (by decide) ?_
  refine Y_istore_n (lv' := [(3, .int 0), (2, .int 0), (0, .ref (b 0)), (1, .ref (a 0))]) hX dX12_loud_3 (by decide) rfl ?_
  refine Y_iconst (v := 0) hX dX12_loud_4 (by decide) ?_
  refine Y_istore (lv' := [(4, .int 0), (3, .int 0), (2, .int 0), (0, .ref (b 0)), (1, .ref (a 0))]) hX dX12_loud_5 (by decide) rfl ?_
  refine Y_iconst (v := 0) hX dX12_loud_7 (by decide) ?_
  refine Y_istore (lv' := [(5, .int 0), (4, .int 0), (3, .int 0), (2, .int 0), (0, .ref (b 0)), (1, .ref (a 0))]) hX dX12_loud_8 (by decide) rfl ?_
  refine Y_sub (lv' := [(5, .int 0), (4, .int 0), (3, .int 0), (2, .int 0), (1, .ref (a 0)), (0, .ref (b 0))]) [0, 1, 2, 3, 5, 4] rfl ?_
  exact loop n 0 (by omega)
