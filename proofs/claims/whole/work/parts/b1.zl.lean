-- ===== the law's loop =====
/-- the law's end -/
def LE (X : Cx) (S : Sx) (A0 : Nat → Prop) : Prop := ∀ (kc kn : Nat) (w : Wd) (lv : List (Nat × Value)), kc ≤ 601024 → kn ≤ 7293034 → VL X S A0 kc kn w 1536 lv [.int 1]
theorem lw_go {q n : Nat} (hn : n ≤ 2560) (hq : q ≤ 600) (h : ¬ Int32.ofNat n - 5 < nI (5 * q)) : 5 * q + 5 ≤ n := by
  have h1 : (Int32.ofNat n).toInt = n := nI_toInt (by omega)
  have h2 : (nI (5 * q)).toInt = ((5 * q : Nat) : Int) := nI_toInt (by omega)
  have h3 : (Int32.ofNat n - 5).toInt = (n : Int) - 5 := by
    rw [Int32.toInt_sub, h1]
    exact Int.bmod_eq_of_le (by show _ ≤ (n : Int) - 5; omega) (by show (n : Int) - 5 < _; omega)
  rw [Int32.lt_iff_toInt_lt, h3, h2] at h
  omega
theorem lw_in {q n j : Nat} (h : 5 * q + 5 ≤ n) (hn : n ≤ 2560) (hj : j ≤ 4) : inB (nI (5 * q + j)) n = true := inB_n (by omega) (by omega)
section LOOP
variable {X : Cx} {S : Sx} {A0 : Nat → Prop} {b n F : Nat} {xs : Nat → Int32}
theorem lw_join {kc kn q : Nat} {w : Wd} (hX : LOk X S A0 cL_law RL 8 room_1) (kk : VL X S A0 kc kn w 23 (lvL S (q + 1) b) []) : VL X S A0 kc kn w 1529 (lvL S q b) [] := by
  refine VL_iinc (j := 0) (v := nI (5 * (q + 1))) hX dL_law_1529 rfl (by decide) (nI_add (5 * q) 5) rfl ?_
  exact VL_goto (tgt := 23) hX dL_law_1532 (by decide) kk
theorem lw_pick {x : Int32} : (x.toInt < 0 ∨ 48 < x.toInt) ∨ ∃ k : Nat, k < 49 ∧ x = nI k := by
  by_cases h : x.toInt < 0 ∨ 48 < x.toInt
  · exact .inl h
  · obtain ⟨j, h1, h2⟩ := nI_of2 (x := x) (M := 48) (n := 48) (by decide) (fun z => h (.inl (by simpa [Int32.lt_iff_toInt_lt] using z))) (by rw [Int32.le_iff_toInt_le, show (48 : Int32).toInt = 48 from by decide]; omega)
    exact .inr ⟨j, by omega, h2⟩
set_option maxHeartbeats 4000000 in
theorem lw_head {kc kn q : Nat} {w : Wd} (hX : LOk X S A0 cL_law RL 8 room_1) (hs : Xscr X A0 b n xs) (hE : LE X S A0) (hn : n ≤ 2560) (hF : 10000 ≤ F) (hI : Inv w q) (hq : q ≤ 600) (hc : kc ≤ 601023) (hkn : kn ≤ 7293028) (kk : 5 * q + 5 ≤ n → ∀ (w2 : Wd) (kc2 kn2 : Nat), Inv w2 (q + 1) → kc2 ≤ kc + 1 → kn2 ≤ kn + 6 → VL X S A0 kc2 kn2 w2 23 (lvL S (q + 1) b) []) : VL X S A0 kc kn w 23 (lvL S q b) [] := by
  refine VL_iload hX dL_law_23 0 rfl ?_
  refine VL_aload_n hX dL_law_25 4 rfl ?_
  refine VL_slen hX hs rfl dL_law_26 ?_
  refine VL_iconst (v := 5) hX dL_law_27 rfl ?_
  refine VL_isub hX dL_law_28 ?_
  refine VL_icmp_gt (tgt := 1535) hX dL_law_29 (by decide) (fun _ => ?_) (fun h0 => ?_)
  · refine VL_iconst (v := 1) hX dL_law_1535 rfl ?_
    exact hE _ _ _ _ (by omega) (by omega)
  have hg := lw_go hn hq h0
  have hC : Cs X S A0 kc kn w q b n F xs := ⟨hX, hs, hI, hq, hF, by rw [show (1 : Int32) = nI 1 from rfl, nI_add]; exact lw_in hg hn (by omega), by rw [show (2 : Int32) = nI 2 from rfl, nI_add]; exact lw_in hg hn (by omega), by rw [show (3 : Int32) = nI 3 from rfl, nI_add]; exact lw_in hg hn (by omega), by rw [show (4 : Int32) = nI 4 from rfl, nI_add]; exact lw_in hg hn (by omega), by show kc + 1 ≤ 601024; omega, by show kn + 6 ≤ 7293034; omega⟩
  have hK : Kn X S A0 kc kn b q := fun w2 kc2 kn2 a1 a2 a3 => lw_join hX (kk hg w2 kc2 kn2 a1 a2 a3)
  refine VL_aload_n hX dL_law_32 4 rfl ?_
  refine VL_iload hX dL_law_33 0 rfl ?_
  refine VL_sld hX hs (lw_in (j := 0) hg hn (by omega)) dL_law_35 ?_
  refine VL_bipush (v := 63) hX dL_law_36 rfl ?_
  refine VL_iand hX dL_law_38 ?_
  generalize xs (nI (5 * q)).toNatClampNeg &&& 63 = x
  rcases lw_pick (x := x) with h | ⟨k, hk, rfl⟩
  · exact VL_tableOut (tgt := 1529) hX dL_law_39 h (by decide) (hK w kc kn (Inv_mono hI) (Nat.le_succ _) (Nat.le_add_right _ _))
  match k, hk with
  | 0, _ => exact VL_tableIn (off := 209) (tgt := 248) hX dL_law_39 (by decide +kernel) (by decide +kernel) (by decide +kernel) (by decide) (lw_c_0 hC hK)
  | 1, _ => exact VL_tableIn (off := 234) (tgt := 273) hX dL_law_39 (by decide +kernel) (by decide +kernel) (by decide +kernel) (by decide) (lw_c_1 hC hK)
  | 2, _ => exact VL_tableIn (off := 259) (tgt := 298) hX dL_law_39 (by decide +kernel) (by decide +kernel) (by decide +kernel) (by decide) (lw_c_2 hC hK)
  | 3, _ => exact VL_tableIn (off := 272) (tgt := 311) hX dL_law_39 (by decide +kernel) (by decide +kernel) (by decide +kernel) (by decide) (lw_c_3 hC hK)
  | 4, _ => exact VL_tableIn (off := 285) (tgt := 324) hX dL_law_39 (by decide +kernel) (by decide +kernel) (by decide +kernel) (by decide) (lw_c_4 hC hK)
  | 5, _ => exact VL_tableIn (off := 298) (tgt := 337) hX dL_law_39 (by decide +kernel) (by decide +kernel) (by decide +kernel) (by decide) (lw_c_5 hC hK)
  | 6, _ => exact VL_tableIn (off := 366) (tgt := 405) hX dL_law_39 (by decide +kernel) (by decide +kernel) (by decide +kernel) (by decide) (lw_c_6 hC hK)
  | 7, _ => exact VL_tableIn (off := 434) (tgt := 473) hX dL_law_39 (by decide +kernel) (by decide +kernel) (by decide +kernel) (by decide) (lw_c_7 hC hK)
  | 8, _ => exact VL_tableIn (off := 447) (tgt := 486) hX dL_law_39 (by decide +kernel) (by decide +kernel) (by decide +kernel) (by decide) (lw_c_8 hC hK)
  | 9, _ => exact VL_tableIn (off := 484) (tgt := 523) hX dL_law_39 (by decide +kernel) (by decide +kernel) (by decide +kernel) (by decide) (lw_c_9 hC hK)
  | 10, _ => exact VL_tableIn (off := 545) (tgt := 584) hX dL_law_39 (by decide +kernel) (by decide +kernel) (by decide +kernel) (by decide) (lw_c_10 hC hK)
  | 11, _ => exact VL_tableIn (off := 570) (tgt := 609) hX dL_law_39 (by decide +kernel) (by decide +kernel) (by decide +kernel) (by decide) (lw_c_11 hC hK)
  | 12, _ => exact VL_tableIn (off := 595) (tgt := 634) hX dL_law_39 (by decide +kernel) (by decide +kernel) (by decide +kernel) (by decide) (lw_c_12 hC hK)
  | 13, _ => exact VL_tableIn (off := 620) (tgt := 659) hX dL_law_39 (by decide +kernel) (by decide +kernel) (by decide +kernel) (by decide) (lw_c_13 hC hK)
  | 14, _ => exact VL_tableIn (off := 645) (tgt := 684) hX dL_law_39 (by decide +kernel) (by decide +kernel) (by decide +kernel) (by decide) (lw_c_14 hC hK)
  | 15, _ => exact VL_tableIn (off := 658) (tgt := 697) hX dL_law_39 (by decide +kernel) (by decide +kernel) (by decide +kernel) (by decide) (lw_c_15 hC hK)
  | 16, _ => exact VL_tableIn (off := 671) (tgt := 710) hX dL_law_39 (by decide +kernel) (by decide +kernel) (by decide +kernel) (by decide) (lw_c_16 hC hK)
  | 17, _ => exact VL_tableIn (off := 684) (tgt := 723) hX dL_law_39 (by decide +kernel) (by decide +kernel) (by decide +kernel) (by decide) (lw_c_17 hC hK)
  | 18, _ => exact VL_tableIn (off := 697) (tgt := 736) hX dL_law_39 (by decide +kernel) (by decide +kernel) (by decide +kernel) (by decide) (lw_c_18 hC hK)
  | 19, _ => exact VL_tableIn (off := 722) (tgt := 761) hX dL_law_39 (by decide +kernel) (by decide +kernel) (by decide +kernel) (by decide) (lw_c_19 hC hK)
  | 20, _ => exact VL_tableIn (off := 747) (tgt := 786) hX dL_law_39 (by decide +kernel) (by decide +kernel) (by decide +kernel) (by decide) (lw_c_20 hC hK)
  | 21, _ => exact VL_tableIn (off := 772) (tgt := 811) hX dL_law_39 (by decide +kernel) (by decide +kernel) (by decide +kernel) (by decide) (lw_c_21 hC hK)
  | 22, _ => exact VL_tableIn (off := 797) (tgt := 836) hX dL_law_39 (by decide +kernel) (by decide +kernel) (by decide +kernel) (by decide) (lw_c_22 hC hK)
  | 23, _ => exact VL_tableIn (off := 810) (tgt := 849) hX dL_law_39 (by decide +kernel) (by decide +kernel) (by decide +kernel) (by decide) (lw_c_23 hC hK)
  | 24, _ => exact VL_tableIn (off := 847) (tgt := 886) hX dL_law_39 (by decide +kernel) (by decide +kernel) (by decide +kernel) (by decide) (lw_c_24 hC hK)
  | 25, _ => exact VL_tableIn (off := 884) (tgt := 923) hX dL_law_39 (by decide +kernel) (by decide +kernel) (by decide +kernel) (by decide) (lw_c_25 hC hK)
  | 26, _ => exact VL_tableIn (off := 921) (tgt := 960) hX dL_law_39 (by decide +kernel) (by decide +kernel) (by decide +kernel) (by decide) (lw_c_26 hC hK)
  | 27, _ => exact VL_tableIn (off := 946) (tgt := 985) hX dL_law_39 (by decide +kernel) (by decide +kernel) (by decide +kernel) (by decide) (lw_c_27 hC hK)
  | 28, _ => exact VL_tableIn (off := 971) (tgt := 1010) hX dL_law_39 (by decide +kernel) (by decide +kernel) (by decide +kernel) (by decide) (lw_c_28 hC hK)
  | 29, _ => exact VL_tableIn (off := 996) (tgt := 1035) hX dL_law_39 (by decide +kernel) (by decide +kernel) (by decide +kernel) (by decide) (lw_c_29 hC hK)
  | 30, _ => exact VL_tableIn (off := 1009) (tgt := 1048) hX dL_law_39 (by decide +kernel) (by decide +kernel) (by decide +kernel) (by decide) (lw_c_30 hC hK)
  | 31, _ => exact VL_tableIn (off := 1022) (tgt := 1061) hX dL_law_39 (by decide +kernel) (by decide +kernel) (by decide +kernel) (by decide) (lw_c_31 hC hK)
  | 32, _ => exact VL_tableIn (off := 1035) (tgt := 1074) hX dL_law_39 (by decide +kernel) (by decide +kernel) (by decide +kernel) (by decide) (lw_c_32 hC hK)
  | 33, _ => exact VL_tableIn (off := 1048) (tgt := 1087) hX dL_law_39 (by decide +kernel) (by decide +kernel) (by decide +kernel) (by decide) (lw_c_33 hC hK)
  | 34, _ => exact VL_tableIn (off := 1073) (tgt := 1112) hX dL_law_39 (by decide +kernel) (by decide +kernel) (by decide +kernel) (by decide) (lw_c_34 hC hK)
  | 35, _ => exact VL_tableIn (off := 1098) (tgt := 1137) hX dL_law_39 (by decide +kernel) (by decide +kernel) (by decide +kernel) (by decide) (lw_c_35 hC hK)
  | 36, _ => exact VL_tableIn (off := 1147) (tgt := 1186) hX dL_law_39 (by decide +kernel) (by decide +kernel) (by decide +kernel) (by decide) (lw_c_36 hC hK)
  | 37, _ => exact VL_tableIn (off := 1160) (tgt := 1199) hX dL_law_39 (by decide +kernel) (by decide +kernel) (by decide +kernel) (by decide) (lw_c_37 hC hK)
  | 38, _ => exact VL_tableIn (off := 1173) (tgt := 1212) hX dL_law_39 (by decide +kernel) (by decide +kernel) (by decide +kernel) (by decide) (lw_c_38 hC hK)
  | 39, _ => exact VL_tableIn (off := 1198) (tgt := 1237) hX dL_law_39 (by decide +kernel) (by decide +kernel) (by decide +kernel) (by decide) (lw_c_39 hC hK)
  | 40, _ => exact VL_tableIn (off := 1211) (tgt := 1250) hX dL_law_39 (by decide +kernel) (by decide +kernel) (by decide +kernel) (by decide) (lw_c_40 hC hK)
  | 41, _ => exact VL_tableIn (off := 1236) (tgt := 1275) hX dL_law_39 (by decide +kernel) (by decide +kernel) (by decide +kernel) (by decide) (lw_c_41 hC hK)
  | 42, _ => exact VL_tableIn (off := 1261) (tgt := 1300) hX dL_law_39 (by decide +kernel) (by decide +kernel) (by decide +kernel) (by decide) (lw_c_42 hC hK)
  | 43, _ => exact VL_tableIn (off := 1298) (tgt := 1337) hX dL_law_39 (by decide +kernel) (by decide +kernel) (by decide +kernel) (by decide) (lw_c_43 hC hK)
  | 44, _ => exact VL_tableIn (off := 1323) (tgt := 1362) hX dL_law_39 (by decide +kernel) (by decide +kernel) (by decide +kernel) (by decide) (lw_c_44 hC hK)
  | 45, _ => exact VL_tableIn (off := 1360) (tgt := 1399) hX dL_law_39 (by decide +kernel) (by decide +kernel) (by decide +kernel) (by decide) (lw_c_45 hC hK)
  | 46, _ => exact VL_tableIn (off := 1385) (tgt := 1424) hX dL_law_39 (by decide +kernel) (by decide +kernel) (by decide +kernel) (by decide) (lw_c_46 hC hK)
  | 47, _ => exact VL_tableIn (off := 1410) (tgt := 1449) hX dL_law_39 (by decide +kernel) (by decide +kernel) (by decide +kernel) (by decide) (lw_c_47 hC hK)
  | 48, _ => exact VL_tableIn (off := 1435) (tgt := 1474) hX dL_law_39 (by decide +kernel) (by decide +kernel) (by decide +kernel) (by decide) (lw_c_48 hC hK)
  | k + 49, h => exact absurd h (by omega)
theorem lw_loop (hX : LOk X S A0 cL_law RL 8 room_1) (hs : Xscr X A0 b n xs) (hE : LE X S A0) (hn : n ≤ 2560) (hF : 10000 ≤ F) : ∀ (m q kc kn : Nat) (w : Wd), q + m = 520 → kc + m ≤ 601023 → kn + 6 * m ≤ 7293028 → Inv w q → VL X S A0 kc kn w 23 (lvL S q b) [] := by
  intro m
  induction m with
  | zero =>
    intro q kc kn w h1 h2 h3 hI
    exact lw_head hX hs hE hn hF hI (by omega) (by omega) (by omega) (fun h => absurd h (by omega))
  | succ m ih =>
    intro q kc kn w h1 h2 h3 hI
    exact lw_head hX hs hE hn hF hI (by omega) (by omega) (by omega) (fun _ w2 kc2 kn2 a1 a2 a3 => ih (q + 1) kc2 kn2 w2 (by omega) (by omega) (by omega) a1)
end LOOP
