-- ===== leaves: the JDK's own =====
def bq1 (x : Int32) : Int32 := x - (iushrI x 1 &&& 1431655765)
def bq2 (x : Int32) : Int32 := (x &&& 858993459) + (iushrI x 2 &&& 858993459)
def bq3 (x : Int32) : Int32 := (x + iushrI x 4) &&& 252645135
def bq4 (x : Int32) : Int32 := x + iushrI x 8
def bq5 (x : Int32) : Int32 := x + iushrI x 16
def fmI (x y : Int32) : Int32 := if 0 ≤ x ^^^ y then iremI x y else if iremI x y = 0 then iremI x y else iremI x y + y
abbrev rmY_J6_bitCount_0f7a4 : Room := { frames := 0, cells := 0, slots := 0, locals := 0 }
set_option maxHeartbeats 4000000 in
theorem cY_J6_bitCount_0f7a4 {S : Sx} {K : Kx} {E : Ex} (hE : Stb E) (hF : ∀ (A : Nat → Prop) (s : State), E A s → KF S K A s s.heap) (x : Int32) : CY S K E yJ6_bitCount_0f7a4 cJ6_bitCount_0f7a4 1 (some .int) rmY_J6_bitCount_0f7a4 [.int x] ([]) (QYi S ([]) (bc x) (fun _ => [])) 0 0 := by
  refine y_meti (own := RJ6) (by decide +kernel) rfl (Nat.le_of_ble_eq_true rfl) hE (fun X A hX hE2 hI hR => ?_)
  show Y X S K A 0 0 [] 0 [(0, .int x)] []
  refine Y_iload_n hX dJ6_bitCount_0f7a4_0 0 rfl ?_
  refine Y_iload_n hX dJ6_bitCount_0f7a4_1 0 rfl ?_
  refine Y_iconst (v := 1) hX dJ6_bitCount_0f7a4_2 (by decide) ?_
  refine Y_iushr hX dJ6_bitCount_0f7a4_3 ?_
  refine Y_ldcw (v := 1431655765) hX dJ6_bitCount_0f7a4_4 cn_J6_265 ?_
  refine Y_iand hX dJ6_bitCount_0f7a4_7 ?_
  refine Y_isub hX dJ6_bitCount_0f7a4_8 ?_
  refine Y_eqi (x' := bq1 x) (rfl) ?_
  refine Y_istore_n (lv' := [(0, .int (bq1 x))]) hX dJ6_bitCount_0f7a4_9 (by decide) rfl ?_
  refine Y_iload_n hX dJ6_bitCount_0f7a4_10 0 rfl ?_
  refine Y_ldcw (v := 858993459) hX dJ6_bitCount_0f7a4_11 cn_J6_266 ?_
  refine Y_iand hX dJ6_bitCount_0f7a4_14 ?_
  refine Y_iload_n hX dJ6_bitCount_0f7a4_15 0 rfl ?_
  refine Y_iconst (v := 2) hX dJ6_bitCount_0f7a4_16 (by decide) ?_
  refine Y_iushr hX dJ6_bitCount_0f7a4_17 ?_
  refine Y_ldcw (v := 858993459) hX dJ6_bitCount_0f7a4_18 cn_J6_266 ?_
  refine Y_iand hX dJ6_bitCount_0f7a4_21 ?_
  refine Y_iadd hX dJ6_bitCount_0f7a4_22 ?_
  refine Y_eqi (x' := bq2 (bq1 x)) (rfl) ?_
  refine Y_istore_n (lv' := [(0, .int (bq2 (bq1 x)))]) hX dJ6_bitCount_0f7a4_23 (by decide) rfl ?_
  refine Y_iload_n hX dJ6_bitCount_0f7a4_24 0 rfl ?_
  refine Y_iload_n hX dJ6_bitCount_0f7a4_25 0 rfl ?_
  refine Y_iconst (v := 4) hX dJ6_bitCount_0f7a4_26 (by decide) ?_
  refine Y_iushr hX dJ6_bitCount_0f7a4_27 ?_
  refine Y_iadd hX dJ6_bitCount_0f7a4_28 ?_
  refine Y_ldcw (v := 252645135) hX dJ6_bitCount_0f7a4_29 cn_J6_267 ?_
  refine Y_iand hX dJ6_bitCount_0f7a4_32 ?_
  refine Y_eqi (x' := bq3 (bq2 (bq1 x))) (rfl) ?_
  refine Y_istore_n (lv' := [(0, .int (bq3 (bq2 (bq1 x))))]) hX dJ6_bitCount_0f7a4_33 (by decide) rfl ?_
  refine Y_iload_n hX dJ6_bitCount_0f7a4_34 0 rfl ?_
  refine Y_iload_n hX dJ6_bitCount_0f7a4_35 0 rfl ?_
  refine Y_bipush (v := 8) hX dJ6_bitCount_0f7a4_36 (by decide) ?_
  refine Y_iushr hX dJ6_bitCount_0f7a4_38 ?_
  refine Y_iadd hX dJ6_bitCount_0f7a4_39 ?_
  refine Y_eqi (x' := bq4 (bq3 (bq2 (bq1 x)))) (rfl) ?_
  refine Y_istore_n (lv' := [(0, .int (bq4 (bq3 (bq2 (bq1 x)))))]) hX dJ6_bitCount_0f7a4_40 (by decide) rfl ?_
  refine Y_iload_n hX dJ6_bitCount_0f7a4_41 0 rfl ?_
  refine Y_iload_n hX dJ6_bitCount_0f7a4_42 0 rfl ?_
  refine Y_bipush (v := 16) hX dJ6_bitCount_0f7a4_43 (by decide) ?_
  refine Y_iushr hX dJ6_bitCount_0f7a4_45 ?_
  refine Y_iadd hX dJ6_bitCount_0f7a4_46 ?_
  refine Y_eqi (x' := bq5 (bq4 (bq3 (bq2 (bq1 x))))) (rfl) ?_
  refine Y_istore_n (lv' := [(0, .int (bq5 (bq4 (bq3 (bq2 (bq1 x))))))]) hX dJ6_bitCount_0f7a4_47 (by decide) rfl ?_
  refine Y_iload_n hX dJ6_bitCount_0f7a4_48 0 rfl ?_
  refine Y_bipush (v := 63) hX dJ6_bitCount_0f7a4_49 (by decide) ?_
  refine Y_iand hX dJ6_bitCount_0f7a4_51 ?_
  refine Y_eqi (x' := bc x) (rfl) ?_
  exact hR (fun _ => 0) _ _ rfl dJ6_bitCount_0f7a4_52
abbrev rmY_J9_floorMod_7cf53 : Room := { frames := 0, cells := 0, slots := 0, locals := 0 }
set_option maxHeartbeats 4000000 in
theorem cY_J9_floorMod_7cf53 {S : Sx} {K : Kx} {E : Ex} (hE : Stb E) (hF : ∀ (A : Nat → Prop) (s : State), E A s → KF S K A s s.heap) (x y : Int32) (hz : neZ y = true) : CY S K E yJ9_floorMod_7cf53 cJ9_floorMod_7cf53 3 (some .int) rmY_J9_floorMod_7cf53 [.int x, .int y] ([]) (QYi S ([]) (fmI x y) (fun _ => [])) 0 0 := by
  refine y_meti (own := RJ9) (by decide +kernel) rfl (Nat.le_of_ble_eq_true rfl) hE (fun X A hX hE2 hI hR => ?_)
  show Y X S K A 0 0 [] 0 [(0, .int x), (1, .int y)] []
  refine Y_iload_n hX dJ9_floorMod_7cf53_0 0 rfl ?_
  refine Y_iload_n hX dJ9_floorMod_7cf53_1 1 rfl ?_
  refine Y_irem hX dJ9_floorMod_7cf53_2 hz ?_
  refine Y_istore_n (lv' := [(2, .int (iremI x y)), (0, .int x), (1, .int y)]) hX dJ9_floorMod_7cf53_3 (by decide) rfl ?_
  refine Y_iload_n hX dJ9_floorMod_7cf53_4 1 rfl ?_
  refine Y_iload_n hX dJ9_floorMod_7cf53_5 2 rfl ?_
  refine Y_ixor hX dJ9_floorMod_7cf53_6 ?_
  refine Y_if_ge (tgt := 18) hX dJ9_floorMod_7cf53_7 (by decide) (fun h7 => ?_) (fun h7 => ?_)
  · refine Y_iload_n hX dJ9_floorMod_7cf53_18 0 rfl ?_
    refine Y_eqi (x' := fmI x y) (by unfold fmI; rw [if_pos h7]) ?_
    exact hR (fun _ => 0) _ _ rfl dJ9_floorMod_7cf53_19
  · refine Y_iload_n hX dJ9_floorMod_7cf53_10 0 rfl ?_
    refine Y_if_eq (tgt := 18) hX dJ9_floorMod_7cf53_11 (by decide) (fun h11 => ?_) (fun h11 => ?_)
    · refine Y_iload_n hX dJ9_floorMod_7cf53_18 0 rfl ?_
      refine Y_eqi (x' := fmI x y) (by unfold fmI; rw [if_neg h7, if_pos h11]) ?_
      exact hR (fun _ => 0) _ _ rfl dJ9_floorMod_7cf53_19
    · refine Y_iload_n hX dJ9_floorMod_7cf53_14 0 rfl ?_
      refine Y_iload_n hX dJ9_floorMod_7cf53_15 2 rfl ?_
      refine Y_iadd hX dJ9_floorMod_7cf53_16 ?_
      refine Y_eqi (x' := fmI x y) (by unfold fmI; rw [if_neg h7, if_neg h11]) ?_
      exact hR (fun _ => 0) _ _ rfl dJ9_floorMod_7cf53_17
abbrev rmY_J0_coder_7d493 : Room := { frames := 0, cells := 0, slots := 0, locals := 0 }
set_option maxHeartbeats 4000000 in
theorem cY_J0_coder_7d493 {S : Sx} {K : Kx} {E : Ex} (hE : Stb E) (hF : ∀ (A : Nat → Prop) (s : State), E A s → KF S K A s s.heap) (x : Sk) (hT : ∀ (A : Nat → Prop) (s : State), E A s → StrAt x A s s.heap) : CY S K E yJ0_coder_7d493 cJ0_coder_7d493 1 (some .byte) rmY_J0_coder_7d493 [.ref x.1] ([]) (QYi S ([]) 0 (fun _ => [])) 0 0 := by
  refine y_meti (own := RJ0) (by decide +kernel) rfl (Nat.le_of_ble_eq_true rfl) hE (fun X A hX hE2 hI hR => ?_)
  show Y X S K A 0 0 [] 0 [(0, .ref x.1)] []
  refine Y_gets (v := .int 1) hX hE2 (fun s h => (hF A s h).2.2.1) fk_J0_38 dJ0_coder_7d493_0 ?_
  refine Y_if_eq (tgt := 13) hX dJ0_coder_7d493_3 (by decide) (fun z => absurd z (show ¬ (1 : Int32) = 0 by decide)) (fun _ => ?_)
  refine Y_aload_n hX dJ0_coder_7d493_6 0 rfl ?_
  refine Y_scod (x := x) hX hE2 (fun s h => hT A s h) dJ0_coder_7d493_7 ?_
  refine Y_goto (tgt := 14) hX dJ0_coder_7d493_10 (by decide) ?_
  exact hR (fun _ => 0) _ _ rfl dJ0_coder_7d493_14
abbrev rmY_J0_isLatin1_aae02 : Room := { frames := 0, cells := 0, slots := 0, locals := 0 }
set_option maxHeartbeats 4000000 in
theorem cY_J0_isLatin1_aae02 {S : Sx} {K : Kx} {E : Ex} (hE : Stb E) (hF : ∀ (A : Nat → Prop) (s : State), E A s → KF S K A s s.heap) (x : Sk) (hT : ∀ (A : Nat → Prop) (s : State), E A s → StrAt x A s s.heap) : CY S K E yJ0_isLatin1_aae02 cJ0_isLatin1_aae02 1 (some .boolean) rmY_J0_isLatin1_aae02 [.ref x.1] ([]) (QYi S ([]) 1 (fun _ => [])) 0 0 := by
  refine y_meti (own := RJ0) (by decide +kernel) rfl (Nat.le_of_ble_eq_true rfl) hE (fun X A hX hE2 hI hR => ?_)
  show Y X S K A 0 0 [] 0 [(0, .ref x.1)] []
  refine Y_gets (v := .int 1) hX hE2 (fun s h => (hF A s h).2.2.1) fk_J0_38 dJ0_isLatin1_aae02_0 ?_
  refine Y_if_eq (tgt := 17) hX dJ0_isLatin1_aae02_3 (by decide) (fun z => absurd z (show ¬ (1 : Int32) = 0 by decide)) (fun _ => ?_)
  refine Y_aload_n hX dJ0_isLatin1_aae02_6 0 rfl ?_
  refine Y_scod (x := x) hX hE2 (fun s h => hT A s h) dJ0_isLatin1_aae02_7 ?_
  refine Y_if_ne (tgt := 17) hX dJ0_isLatin1_aae02_10 (by decide) (fun z => absurd (show (0 : Int32) = 0 from rfl) z) (fun _ => ?_)
  refine Y_iconst (v := 1) hX dJ0_isLatin1_aae02_13 (by decide) ?_
  refine Y_goto (tgt := 18) hX dJ0_isLatin1_aae02_14 (by decide) ?_
  exact hR (fun _ => 0) _ _ rfl dJ0_isLatin1_aae02_18
theorem shr0 (x : Int32) : ishrI x 0 = x := by unfold ishrI; exact sb_shr0 x
abbrev rmY_J0_length_8abf5 : Room := { frames := 1, cells := 0, slots := 0, locals := 20 }
set_option maxHeartbeats 4000000 in
theorem cY_J0_length_8abf5 {S : Sx} {K : Kx} {E : Ex} (hE : Stb E) (hF : ∀ (A : Nat → Prop) (s : State), E A s → KF S K A s s.heap) (x : Sk) (hT : ∀ (A : Nat → Prop) (s : State), E A s → StrAt x A s s.heap) (hL : x.2.2.length < 2 ^ 30) : CY S K E yJ0_length_8abf5 cJ0_length_8abf5 1 (some .int) rmY_J0_length_8abf5 [.ref x.1] ([]) (QYi S ([]) (nI x.2.2.length) (fun _ => [])) 0 0 := by
  refine y_meti (own := RJ0) (by decide +kernel) rfl (Nat.le_of_ble_eq_true rfl) hE (fun X A hX hE2 hI hR => ?_)
  show Y X S K A 0 0 [] 0 [(0, .ref x.1)] []
  refine Y_aload_n hX dJ0_length_8abf5_0 0 rfl ?_
  refine Y_sval (x := x) hX hE2 (fun s h => hT A s h) dJ0_length_8abf5_1 ?_
  refine Y_slen (x := x) hX hE2 (fun s h => hT A s h) dJ0_length_8abf5_4 ?_
  refine Y_aload_n hX dJ0_length_8abf5_5 0 rfl ?_
  refine Y_resi hX (sub := []) (rst := []) rfl (Y_runT (x := x) (As := []) (rest := [.int (nI x.2.2.length)]) hX hE2 (fun s h => hT A s h) mk_J0_335 nkY_J0_coder_7d493 hE (cY_J0_coder_7d493 hE hF x hT) rfl Ecall.same ⟨rfl, rfl⟩ ⟨Nat.le_of_ble_eq_true rfl, Nat.le_of_ble_eq_true rfl⟩ rfl rfl (Nat.le_of_ble_eq_true rfl) dJ0_length_8abf5_6 ⟨Nat.le_of_ble_eq_true rfl, Nat.le_of_ble_eq_true rfl⟩) (fun u6 => ?_)
  show Y X S K A 0 0 [] 9 [(0, .ref x.1)] [.int 0, .int (nI x.2.2.length)]
  refine Y_ishr hX dJ0_length_8abf5_9 ?_
  refine Y_eqi (x' := nI x.2.2.length) (shr0 _) ?_
  exact hR (fun _ => 0) _ _ rfl dJ0_length_8abf5_10
abbrev rmY_J3_checkIndex_8e157 : Room := { frames := 0, cells := 0, slots := 0, locals := 0 }
set_option maxHeartbeats 4000000 in
theorem cY_J3_checkIndex_8e157 {S : Sx} {K : Kx} {E : Ex} (hE : Stb E) (hF : ∀ (A : Nat → Prop) (s : State), E A s → KF S K A s s.heap) (i n : Nat) (v : Value) (hv : v = .null ∨ ∃ a, v = .ref a) (hi : i < n) (hn : n < 2 ^ 31) : CY S K E yJ3_checkIndex_8e157 cJ3_checkIndex_8e157 3 (some .int) rmY_J3_checkIndex_8e157 [.int (nI i), .int (nI n), v] ([]) (QYi S ([]) (nI i) (fun _ => [])) 0 0 := by
  rcases hv with rfl | ⟨a, rfl⟩
  · refine y_meti (own := RJ3) (by decide +kernel) rfl (Nat.le_of_ble_eq_true rfl) hE (fun X A hX hE2 hI hR => ?_)
    show Y X S K A 0 0 [] 0 [(0, .int (nI i)), (1, .int (nI n)), (2, .null)] []
    refine Y_iload_n hX dJ3_checkIndex_8e157_0 0 rfl ?_
    refine Y_if_lt (tgt := 9) hX dJ3_checkIndex_8e157_1 (by decide) (fun z => absurd z (nI_pos (Nat.lt_trans hi hn))) (fun _ => ?_)
    refine Y_iload_n hX dJ3_checkIndex_8e157_4 0 rfl ?_
    refine Y_iload_n hX dJ3_checkIndex_8e157_5 1 rfl ?_
    refine Y_icmp_lt (tgt := 16) hX dJ3_checkIndex_8e157_6 (by decide) (fun _ => ?_) (fun z => absurd (nI_lt hi hn) z)
    refine Y_iload_n hX dJ3_checkIndex_8e157_16 0 rfl ?_
    exact hR (fun _ => 0) _ _ rfl dJ3_checkIndex_8e157_17
  · refine y_meti (own := RJ3) (by decide +kernel) rfl (Nat.le_of_ble_eq_true rfl) hE (fun X A hX hE2 hI hR => ?_)
    show Y X S K A 0 0 [] 0 [(0, .int (nI i)), (1, .int (nI n)), (2, .ref a)] []
    refine Y_iload_n hX dJ3_checkIndex_8e157_0 0 rfl ?_
    refine Y_if_lt (tgt := 9) hX dJ3_checkIndex_8e157_1 (by decide) (fun z => absurd z (nI_pos (Nat.lt_trans hi hn))) (fun _ => ?_)
    refine Y_iload_n hX dJ3_checkIndex_8e157_4 0 rfl ?_
    refine Y_iload_n hX dJ3_checkIndex_8e157_5 1 rfl ?_
    refine Y_icmp_lt (tgt := 16) hX dJ3_checkIndex_8e157_6 (by decide) (fun _ => ?_) (fun z => absurd (nI_lt hi hn) z)
    refine Y_iload_n hX dJ3_checkIndex_8e157_16 0 rfl ?_
    exact hR (fun _ => 0) _ _ rfl dJ3_checkIndex_8e157_17
abbrev rmY_J0_checkIndex_df160 : Room := { frames := 1, cells := 0, slots := 0, locals := 22 }
set_option maxHeartbeats 4000000 in
theorem cY_J0_checkIndex_df160 {S : Sx} {K : Kx} {E : Ex} (hE : Stb E) (hF : ∀ (A : Nat → Prop) (s : State), E A s → KF S K A s s.heap) (i n : Nat) (hi : i < n) (hn : n < 2 ^ 31) : CY S K E yJ0_checkIndex_df160 cJ0_checkIndex_df160 2 none rmY_J0_checkIndex_df160 [.int (nI i), .int (nI n)] ([]) (QYv S ([]) (fun _ => [])) 0 0 := by
  refine y_metv (own := RJ0) (by decide +kernel) rfl (Nat.le_of_ble_eq_true rfl) hE (fun X A hX hE2 hI hR => ?_)
  show Y X S K A 0 0 [] 0 [(0, .int (nI i)), (1, .int (nI n))] []
  refine Y_iload_n hX dJ0_checkIndex_df160_0 0 rfl ?_
  refine Y_iload_n hX dJ0_checkIndex_df160_1 1 rfl ?_
  refine Y_gets (v := fmV S) hX hE2 (fun s h => (hF A s h).2.2.2.1) fk_J0_1053 dJ0_checkIndex_df160_2 ?_
  refine Y_resi hX (sub := []) (rst := []) rfl (Y_runS (As := [.int (nI i), .int (nI n), fmV S]) (rest := []) hX hE2 mk_J0_1059 nkY_J3_checkIndex_8e157 hE (cY_J3_checkIndex_8e157 hE hF i n (fmV S) (fm_cases S) hi hn) rfl Ecall.same ⟨rfl, rfl⟩ ⟨Nat.le_of_ble_eq_true rfl, Nat.le_of_ble_eq_true rfl⟩ rfl rfl (Nat.le_of_ble_eq_true rfl) dJ0_checkIndex_df160_5 ⟨Nat.le_of_ble_eq_true rfl, Nat.le_of_ble_eq_true rfl⟩) (fun u5 => ?_)
  show Y X S K A 0 0 [] 8 [(0, .int (nI i)), (1, .int (nI n))] [.int (nI i)]
  refine Y_pop hX dJ0_checkIndex_df160_8 rfl ?_
  exact hR (fun _ => 0) _ _ dJ0_checkIndex_df160_9
abbrev rmY_J15_checkIndex_7cf53 : Room := { frames := 1, cells := 0, slots := 0, locals := 22 }
set_option maxHeartbeats 4000000 in
theorem cY_J15_checkIndex_7cf53 {S : Sx} {K : Kx} {E : Ex} (hE : Stb E) (hF : ∀ (A : Nat → Prop) (s : State), E A s → KF S K A s s.heap) (i n : Nat) (hi : i < n) (hn : n < 2 ^ 31) : CY S K E yJ15_checkIndex_7cf53 cJ15_checkIndex_7cf53 2 (some .int) rmY_J15_checkIndex_7cf53 [.int (nI i), .int (nI n)] ([]) (QYi S ([]) (nI i) (fun _ => [])) 0 0 := by
  refine y_meti (own := RJ15) (by decide +kernel) rfl (Nat.le_of_ble_eq_true rfl) hE (fun X A hX hE2 hI hR => ?_)
  show Y X S K A 0 0 [] 0 [(0, .int (nI i)), (1, .int (nI n))] []
  refine Y_iload_n hX dJ15_checkIndex_7cf53_0 0 rfl ?_
  refine Y_iload_n hX dJ15_checkIndex_7cf53_1 1 rfl ?_
  refine Y_null hX dJ15_checkIndex_7cf53_2 ?_
  refine Y_resi hX (sub := []) (rst := []) rfl (Y_runS (As := [.int (nI i), .int (nI n), .null]) (rest := []) hX hE2 mk_J15_105 nkY_J3_checkIndex_8e157 hE (cY_J3_checkIndex_8e157 hE hF i n .null (.inl rfl) hi hn) rfl Ecall.same ⟨rfl, rfl⟩ ⟨Nat.le_of_ble_eq_true rfl, Nat.le_of_ble_eq_true rfl⟩ rfl rfl (Nat.le_of_ble_eq_true rfl) dJ15_checkIndex_7cf53_3 ⟨Nat.le_of_ble_eq_true rfl, Nat.le_of_ble_eq_true rfl⟩) (fun u3 => ?_)
  show Y X S K A 0 0 [] 6 [(0, .int (nI i)), (1, .int (nI n))] [.int (nI i)]
  exact hR (fun _ => 0) _ _ rfl dJ15_checkIndex_7cf53_6
def chI (x : Int32) : Int32 := i2cI (x &&& 255)
abbrev rmY_J1_charAt_3b067 : Room := { frames := 2, cells := 0, slots := 0, locals := 43 }
set_option maxHeartbeats 4000000 in
theorem cY_J1_charAt_3b067 {S : Sx} {K : Kx} {E : Ex} (hE : Stb E) (hF : ∀ (A : Nat → Prop) (s : State), E A s → KF S K A s s.heap) (x : Sk) (hT : ∀ (A : Nat → Prop) (s : State), E A s → StrAt x A s s.heap) (i : Nat) (hi : i < x.2.2.length) (hL : x.2.2.length < 2 ^ 31) (hc : isChr (chI (x.2.2.getD i 0)) = true) : CY S K E yJ1_charAt_3b067 cJ1_charAt_3b067 2 (some .char) rmY_J1_charAt_3b067 [.ref x.2.1, .int (nI i)] ([]) (QYi S ([]) (chI (x.2.2.getD i 0)) (fun _ => [])) 0 0 := by
  refine y_meti (own := RJ1) (by decide +kernel) rfl (Nat.le_of_ble_eq_true rfl) hE (fun X A hX hE2 hI hR => ?_)
  show Y X S K A 0 0 [] 0 [(0, .ref x.2.1), (1, .int (nI i))] []
  refine Y_iload_n hX dJ1_charAt_3b067_0 1 rfl ?_
  refine Y_aload_n hX dJ1_charAt_3b067_1 0 rfl ?_
  refine Y_slen (x := x) hX hE2 (fun s h => hT A s h) dJ1_charAt_3b067_2 ?_
  refine Y_resv hX (sub := []) (rst := []) rfl (Y_runS (As := [.int (nI i), .int (nI x.2.2.length)]) (rest := []) hX hE2 mk_J1_9 nkY_J0_checkIndex_df160 hE (cY_J0_checkIndex_df160 hE hF i x.2.2.length hi hL) rfl Ecall.same ⟨rfl, rfl⟩ ⟨Nat.le_of_ble_eq_true rfl, Nat.le_of_ble_eq_true rfl⟩ rfl rfl (Nat.le_of_ble_eq_true rfl) dJ1_charAt_3b067_3 ⟨Nat.le_of_ble_eq_true rfl, Nat.le_of_ble_eq_true rfl⟩) (fun u3 => ?_)
  show Y X S K A 0 0 [] 6 [(0, .ref x.2.1), (1, .int (nI i))] []
  refine Y_aload_n hX dJ1_charAt_3b067_6 0 rfl ?_
  refine Y_iload_n hX dJ1_charAt_3b067_7 1 rfl ?_
  refine Y_tb hX hE2 (fun s h => (hT A s h).2.2.2) (vp_in_nI hi hL) (by rw [nI_clamp (Nat.lt_trans hi hL)]) dJ1_charAt_3b067_8 ?_
  refine Y_sipush (v := 255) hX dJ1_charAt_3b067_9 (by decide) ?_
  refine Y_iand hX dJ1_charAt_3b067_12 ?_
  refine Y_i2c hX dJ1_charAt_3b067_13 ?_
  exact hR (fun _ => 0) _ _ (nar_c hc) dJ1_charAt_3b067_14
abbrev rmY_J0_charAt_5068e : Room := { frames := 3, cells := 0, slots := 0, locals := 64 }
set_option maxHeartbeats 4000000 in
theorem cY_J0_charAt_5068e {S : Sx} {K : Kx} {E : Ex} (hE : Stb E) (hF : ∀ (A : Nat → Prop) (s : State), E A s → KF S K A s s.heap) (x : Sk) (hT : ∀ (A : Nat → Prop) (s : State), E A s → StrAt x A s s.heap) (i : Nat) (hi : i < x.2.2.length) (hL : x.2.2.length < 2 ^ 31) (hc : isChr (chI (x.2.2.getD i 0)) = true) : CY S K E yJ0_charAt_5068e cJ0_charAt_5068e 2 (some .char) rmY_J0_charAt_5068e [.ref x.1, .int (nI i)] ([]) (QYi S ([]) (chI (x.2.2.getD i 0)) (fun _ => [])) 0 0 := by
  refine y_meti (own := RJ0) (by decide +kernel) rfl (Nat.le_of_ble_eq_true rfl) hE (fun X A hX hE2 hI hR => ?_)
  show Y X S K A 0 0 [] 0 [(0, .ref x.1), (1, .int (nI i))] []
  refine Y_aload_n hX dJ0_charAt_5068e_0 0 rfl ?_
  refine Y_resi hX (sub := []) (rst := []) rfl (Y_runT (x := x) (As := []) (rest := []) hX hE2 (fun s h => hT A s h) mk_J0_492 nkY_J0_isLatin1_aae02 hE (cY_J0_isLatin1_aae02 hE hF x hT) rfl Ecall.same ⟨rfl, rfl⟩ ⟨Nat.le_of_ble_eq_true rfl, Nat.le_of_ble_eq_true rfl⟩ rfl rfl (Nat.le_of_ble_eq_true rfl) dJ0_charAt_5068e_1 ⟨Nat.le_of_ble_eq_true rfl, Nat.le_of_ble_eq_true rfl⟩) (fun u1 => ?_)
  show Y X S K A 0 0 [] 4 [(0, .ref x.1), (1, .int (nI i))] [.int 1]
  refine Y_if_eq (tgt := 16) hX dJ0_charAt_5068e_4 (by decide) (fun z => absurd z (show ¬ (1 : Int32) = 0 by decide)) (fun _ => ?_)
  refine Y_aload_n hX dJ0_charAt_5068e_7 0 rfl ?_
  refine Y_sval (x := x) hX hE2 (fun s h => hT A s h) dJ0_charAt_5068e_8 ?_
  refine Y_iload_n hX dJ0_charAt_5068e_11 1 rfl ?_
  refine Y_resi hX (sub := []) (rst := []) rfl (Y_runS (As := [.ref x.2.1, .int (nI i)]) (rest := []) hX hE2 mk_J0_495 nkY_J1_charAt_3b067 hE (cY_J1_charAt_3b067 hE hF x hT i hi hL hc) rfl Ecall.same ⟨rfl, rfl⟩ ⟨Nat.le_of_ble_eq_true rfl, Nat.le_of_ble_eq_true rfl⟩ rfl rfl (Nat.le_of_ble_eq_true rfl) dJ0_charAt_5068e_12 ⟨Nat.le_of_ble_eq_true rfl, Nat.le_of_ble_eq_true rfl⟩) (fun u12 => ?_)
  show Y X S K A 0 0 [] 15 [(0, .ref x.1), (1, .int (nI i))] [.int (chI (x.2.2.getD i 0))]
  exact hR (fun _ => 0) _ _ (nar_c hc) dJ0_charAt_5068e_15
