-- ===== texts that are made =====
/-- a list's numbers, by their places -/
def lsF (l : List Int32) : Nat → Int32 := fun k => l.getD k 0
/-- a builder: its count, its bytes -/
def sbD (K : Kx) (b v : Nat) (c : Int32) (g : Nat → Int32) : va_W := [(b, .inr (1, [.ref v, .int 0, .int 0, .int c])), (v, .inl (K.1 0, 16, .inl g))]
/-- a text: its bytes -/
def stD (K : Kx) (s v : Nat) (l : List Int32) : va_W := [(s, .inr (0, [.ref v, .int 0, .int 0, .int 0])), (v, .inl (K.1 0, l.length, .inl (lsF l)))]
theorem ls_out {l : List Int32} {k : Nat} (h : l.length ≤ k) : lsF l k = 0 := by unfold lsF; rw [List.getD_eq_getElem?_getD, List.getElem?_eq_none h]; rfl
theorem ls_left {l x : List Int32} {k : Nat} (h : k < l.length) : lsF (l ++ x) k = lsF l k := by unfold lsF; rw [List.getD_eq_getElem?_getD, List.getD_eq_getElem?_getD, List.getElem?_append_left h]
theorem ls_right {l x : List Int32} {k : Nat} (h : l.length ≤ k) : lsF (l ++ x) k = lsF x (k - l.length) := by unfold lsF; rw [List.getD_eq_getElem?_getD, List.getD_eq_getElem?_getD, List.getElem?_append_right h]
theorem ls_put {l x : List Int32} (h : l.length < 2 ^ 31) (h2 : x.length < 2 ^ 31) : va_cpy (fun j => x.getD j 0) (lsF l) (0 : Int32).toNatClampNeg (nI l.length).toNatClampNeg (nI x.length).toNatClampNeg = lsF (l ++ x) := by
  rw [nI_clamp h, nI_clamp h2, show (0 : Int32).toNatClampNeg = 0 from rfl]
  funext j
  by_cases c : j < l.length
  · rw [pk_cpy_out (.inl c), ls_left c]
  · rw [ls_right (by omega)]
    by_cases c2 : j < l.length + x.length
    · rw [pk_cpy_in (by omega) c2, Nat.zero_add]; rfl
    · rw [pk_cpy_out (.inr (by omega)), ls_out (by omega), ls_out (by omega)]
theorem ls_cpy {l : List Int32} (h : l.length < 2 ^ 31) : va_cpy (lsF l) (fun _ => 0) (0 : Int32).toNatClampNeg (0 : Int32).toNatClampNeg (nI l.length).toNatClampNeg = lsF l := by
  rw [nI_clamp h, show (0 : Int32).toNatClampNeg = 0 from rfl]
  funext j
  by_cases c : j < l.length
  · rw [pk_cpy_in (Nat.zero_le _) (by omega), Nat.sub_zero, Nat.zero_add]
  · rw [pk_cpy_out (.inr (by omega)), ls_out (by omega)]
theorem ls_1 {l : List Int32} {a : Int32} : upd (lsF l) l.length a = lsF (l ++ [a]) := by
  funext j
  unfold upd
  by_cases c : j = l.length
  · rw [if_pos c, c, ls_right (Nat.le_refl _), Nat.sub_self]; rfl
  · rw [if_neg c]
    by_cases c2 : j < l.length
    · rw [ls_left c2]
    · rw [ls_right (by omega), ls_out (by omega), ls_out (show [a].length ≤ _ by show 1 ≤ _; omega)]
theorem ls_2 {l : List Int32} {a b : Int32} : upd (upd (lsF l) (l.length + 1) b) l.length a = lsF (l ++ [a, b]) := by
  rw [show l ++ [a, b] = (l ++ [a]) ++ [b] by simp, ← ls_1 (l := l ++ [a]), ← ls_1, List.length_append]
  funext j
  unfold upd
  show (if j = l.length then a else if j = l.length + 1 then b else lsF l j) = if j = l.length + 1 then b else if j = l.length then a else lsF l j
  by_cases c : j = l.length
  · rw [if_pos c, if_neg (by omega), if_pos c]
  · rw [if_neg c, if_neg c]
/-- a number below a hundred, as it is written -/
def dgL (v : Nat) : List Int32 := if v < 10 then [nI (48 + v)] else [nI (48 + v / 10), nI (48 + v % 10)]
def szD (v : Nat) : Nat := if v < 10 then 1 else 2
theorem dg_len (v : Nat) : (dgL v).length = szD v := by unfold dgL szD; split <;> rfl
theorem fit_48 : ∀ v, v < 10 → fits .byte (.int (nI (48 + v))) = true ∧ vp_nar .byte (nI (48 + v)) = nI (48 + v) := by decide +kernel
theorem fit_dg {v : Nat} (hv : v < 100) : ∀ i : Nat, fits .byte (.int ((dgL v).getD i 0)) = true := by
  have key : ∀ v, v < 100 → ∀ i, i < 2 → fits .byte (.int ((dgL v).getD i 0)) = true := by decide +kernel
  intro i
  by_cases c : i < 2
  · exact key v hv i c
  · have h : (dgL v).length ≤ i := by rw [dg_len]; unfold szD; split <;> omega
    rw [List.getD_eq_getElem?_getD, List.getElem?_eq_none h]; rfl
theorem fit_app {l x : List Int32} (h1 : ∀ i : Nat, fits .byte (.int (l.getD i 0)) = true) (h2 : ∀ i : Nat, fits .byte (.int (x.getD i 0)) = true) : ∀ i : Nat, fits .byte (.int ((l ++ x).getD i 0)) = true := by
  intro i
  rw [List.getD_eq_getElem?_getD]
  by_cases c : i < l.length
  · rw [List.getElem?_append_left c, ← List.getD_eq_getElem?_getD]; exact h1 i
  · rw [List.getElem?_append_right (by omega), ← List.getD_eq_getElem?_getD]; exact h2 _
theorem sub16 : ∀ m, m ≤ 16 → nI m - 16 ≤ 0 := by decide +kernel
theorem min16 : ∀ n, n ≤ 16 → minI 16 (nI n) = nI n := by decide +kernel
theorem ne16 : ∀ n, n < 16 → ¬ nI n = 16 := by decide +kernel
theorem isub0 (x : Int32) : x - 0 = x := by rw [Int32.sub_eq_add_neg]; exact Int32.add_zero x
theorem ishl0 (x : Int32) : ishlI x 0 = x := by unfold ishlI; exact sb_shl0 x
theorem sz_1 : ∀ v, v < 100 → ¬ (-(nI v) ≤ -10) → nI (szD v) = 1 + 0 := by decide +kernel
theorem sz_2 : ∀ v, v < 100 → -(nI v) ≤ -10 → nI (szD v) = 2 + 0 := by decide +kernel
theorem sz_3 : ∀ v, v < 100 → ¬ (-(nI v) ≤ -100) ∧ -100 < -(nI v) := by decide +kernel
theorem ngng (x : Int32) : - -x = x := by rw [Int32.neg_neg]
theorem dg_1 : ∀ v, v < 100 → -9 ≤ -(nI v) → dgL v = [nI (48 + v % 10)] ∧ szD v = 1 := by decide +kernel
theorem dg_2 : ∀ v, v < 100 → ¬ -9 ≤ -(nI v) → dgL v = [nI (48 + v / 10), nI (48 + v % 10)] ∧ szD v = 2 := by decide +kernel
theorem bsub1 (n : Nat) : nI (n + 1) + Int32.ofInt (-1) = nI n := by
  rw [show Int32.ofInt (-1) = -1 from rfl, ← Int32.sub_eq_add_neg]; exact nI_pred n
abbrev rmY_J5_isLatin1_aae02 : Room := { frames := 0, cells := 0, slots := 0, locals := 0 }
set_option maxHeartbeats 4000000 in
theorem cY_J5_isLatin1_aae02 {S : Sx} {K : Kx} {E : Ex} (hE : Stb E) (hF : ∀ (A : Nat → Prop) (s : State), E A s → KF S K A s s.heap) (b v : Nat) (c : Int32) (g : Nat → Int32) : CY S K E yJ5_isLatin1_aae02 cJ5_isLatin1_aae02 1 (some .boolean) rmY_J5_isLatin1_aae02 [.ref b] ([sbD K b v c g]) (QYi S ([sbD K b v c g]) 1 (fun _ => [sbD K b v c g])) 0 0 := by
  refine y_meti (own := RJ5) (by decide +kernel) rfl (Nat.le_of_ble_eq_true rfl) hE (fun X A hX hE2 hI hR => ?_)
  show Y X S K A 0 0 [sbD K b v c g] 0 [(0, .ref b)] []
  refine Y_gets (v := .int 1) hX hE2 (fun s h => (hF A s h).2.2.1) fk_J5_18 dJ5_isLatin1_aae02_0 ?_
  refine Y_if_eq (tgt := 17) hX dJ5_isLatin1_aae02_3 (by decide) (fun z => absurd z (show ¬ (1 : Int32) = 0 by decide)) (fun _ => ?_)
  refine Y_aload_n hX dJ5_isLatin1_aae02_6 0 rfl ?_
  refine Y_get 0 0 hX fk_J5_22 rfl rfl rfl dJ5_isLatin1_aae02_7 ?_
  refine Y_if_ne (tgt := 17) hX dJ5_isLatin1_aae02_10 (by decide) (fun z => absurd (show (0 : Int32) = 0 from rfl) z) (fun _ => ?_)
  refine Y_iconst (v := 1) hX dJ5_isLatin1_aae02_13 (by decide) ?_
  refine Y_goto (tgt := 18) hX dJ5_isLatin1_aae02_14 (by decide) ?_
  exact hR (fun _ => 0) _ _ rfl dJ5_isLatin1_aae02_18
abbrev rmY_J5_getValue_6d5f1 : Room := { frames := 0, cells := 0, slots := 0, locals := 0 }
set_option maxHeartbeats 4000000 in
theorem cY_J5_getValue_6d5f1 {S : Sx} {K : Kx} {E : Ex} (hE : Stb E) (hF : ∀ (A : Nat → Prop) (s : State), E A s → KF S K A s s.heap) (b v : Nat) (c : Int32) (g : Nat → Int32) : CY S K E yJ5_getValue_6d5f1 cJ5_getValue_6d5f1 1 (some (.array .byte)) rmY_J5_getValue_6d5f1 [.ref b] ([sbD K b v c g]) (QYq S ([sbD K b v c g]) (fun _ => some v) (fun _ => [sbD K b v c g])) 0 0 := by
  refine y_metq (own := RJ5) (.inr ⟨_, rfl⟩) (by decide +kernel) rfl (Nat.le_of_ble_eq_true rfl) hE (fun X A hX hE2 hI hR => ?_)
  show Y X S K A 0 0 [sbD K b v c g] 0 [(0, .ref b)] []
  refine Y_aload_n hX dJ5_getValue_6d5f1_0 0 rfl ?_
  refine Y_get 0 0 hX fk_J5_15 rfl rfl rfl dJ5_getValue_6d5f1_1 ?_
  exact hR (fun _ => 0) _ _ dJ5_getValue_6d5f1_4
abbrev rmY_J5_length_8abf5 : Room := { frames := 0, cells := 0, slots := 0, locals := 0 }
set_option maxHeartbeats 4000000 in
theorem cY_J5_length_8abf5 {S : Sx} {K : Kx} {E : Ex} (hE : Stb E) (hF : ∀ (A : Nat → Prop) (s : State), E A s → KF S K A s s.heap) (b v : Nat) (c : Int32) (g : Nat → Int32) : CY S K E yJ5_length_8abf5 cJ5_length_8abf5 1 (some .int) rmY_J5_length_8abf5 [.ref b] ([sbD K b v c g]) (QYi S ([sbD K b v c g]) c (fun _ => [sbD K b v c g])) 0 0 := by
  refine y_meti (own := RJ5) (by decide +kernel) rfl (Nat.le_of_ble_eq_true rfl) hE (fun X A hX hE2 hI hR => ?_)
  show Y X S K A 0 0 [sbD K b v c g] 0 [(0, .ref b)] []
  refine Y_aload_n hX dJ5_length_8abf5_0 0 rfl ?_
  refine Y_get 0 0 hX fk_J5_79 rfl rfl rfl dJ5_length_8abf5_1 ?_
  exact hR (fun _ => 0) _ _ rfl dJ5_length_8abf5_4
abbrev rmY_J4_length_8abf5 : Room := { frames := 1, cells := 0, slots := 0, locals := 20 }
set_option maxHeartbeats 4000000 in
theorem cY_J4_length_8abf5 {S : Sx} {K : Kx} {E : Ex} (hE : Stb E) (hF : ∀ (A : Nat → Prop) (s : State), E A s → KF S K A s s.heap) (b v : Nat) (c : Int32) (g : Nat → Int32) : CY S K E yJ4_length_8abf5 cJ4_length_8abf5 1 (some .int) rmY_J4_length_8abf5 [.ref b] ([sbD K b v c g]) (QYi S ([sbD K b v c g]) c (fun _ => [sbD K b v c g])) 0 0 := by
  refine y_meti (own := RJ4) (by decide +kernel) rfl (Nat.le_of_ble_eq_true rfl) hE (fun X A hX hE2 hI hR => ?_)
  show Y X S K A 0 0 [sbD K b v c g] 0 [(0, .ref b)] []
  refine Y_aload_n hX dJ4_length_8abf5_0 0 rfl ?_
  refine Y_resi hX (sub := [sbD K b v c g]) (rst := []) rfl (Y_runSU (b := 0) (i := 0) (As := []) (rest := []) hX hE2 su_J4_343 hE (cY_J5_length_8abf5 hE hF b v c g) rfl Ecall.same rfl rfl rfl ⟨rfl, rfl⟩ ⟨Nat.le_of_ble_eq_true rfl, Nat.le_of_ble_eq_true rfl⟩ rfl rfl (Nat.le_of_ble_eq_true rfl) dJ4_length_8abf5_1 ⟨Nat.le_of_ble_eq_true rfl, Nat.le_of_ble_eq_true rfl⟩) (fun u1 => ?_)
  show Y X S K A 0 0 [sbD K b v c g] 4 [(0, .ref b)] [.int c]
  exact hR (fun _ => 0) _ _ rfl dJ4_length_8abf5_4
abbrev rmY_J5_ensureCapacityInternal_d00df : Room := { frames := 0, cells := 0, slots := 0, locals := 0 }
set_option maxHeartbeats 4000000 in
theorem cY_J5_ensureCapacityInternal_d00df {S : Sx} {K : Kx} {E : Ex} (hE : Stb E) (hF : ∀ (A : Nat → Prop) (s : State), E A s → KF S K A s s.heap) (b v : Nat) (c : Int32) (g : Nat → Int32) (m : Nat) (hm : m ≤ 16) : CY S K E yJ5_ensureCapacityInternal_d00df cJ5_ensureCapacityInternal_d00df 3 none rmY_J5_ensureCapacityInternal_d00df [.ref b, .int (nI m)] ([sbD K b v c g]) (QYv S ([sbD K b v c g]) (fun _ => [sbD K b v c g])) 0 0 := by
  refine y_metv (own := RJ5) (by decide +kernel) rfl (Nat.le_of_ble_eq_true rfl) hE (fun X A hX hE2 hI hR => ?_)
  show Y X S K A 0 0 [sbD K b v c g] 0 [(0, .ref b), (1, .int (nI m))] []
  refine Y_aload_n hX dJ5_ensureCapacityInternal_d00df_0 0 rfl ?_
  refine Y_get 0 0 hX fk_J5_15 rfl rfl rfl dJ5_ensureCapacityInternal_d00df_1 ?_
  refine Y_alen (t0 := 4) (v := 16) 0 1 hX rfl rfl rfl rfl dJ5_ensureCapacityInternal_d00df_4 ?_
  refine Y_aload_n hX dJ5_ensureCapacityInternal_d00df_5 0 rfl ?_
  refine Y_get 0 0 hX fk_J5_22 rfl rfl rfl dJ5_ensureCapacityInternal_d00df_6 ?_
  refine Y_ishr hX dJ5_ensureCapacityInternal_d00df_9 ?_
  refine Y_eqi (x' := 16) ((by decide)) ?_
  refine Y_istore_n (lv' := [(2, .int 16), (0, .ref b), (1, .int (nI m))]) hX dJ5_ensureCapacityInternal_d00df_10 (by decide) rfl ?_
  refine Y_iload_n hX dJ5_ensureCapacityInternal_d00df_11 2 rfl ?_
  refine Y_iload_n hX dJ5_ensureCapacityInternal_d00df_12 0 rfl ?_
  refine Y_isub hX dJ5_ensureCapacityInternal_d00df_13 ?_
  refine Y_if_le (tgt := 38) hX dJ5_ensureCapacityInternal_d00df_14 (by decide) (fun _ => ?_) (fun z => absurd (sub16 m hm) z)
  exact hR (fun _ => 0) _ _ dJ5_ensureCapacityInternal_d00df_38
abbrev rmY_J5_inflateIfNeededFor_a7421 : Room := { frames := 2, cells := 0, slots := 0, locals := 84 }
set_option maxHeartbeats 4000000 in
theorem cY_J5_inflateIfNeededFor_a7421 {S : Sx} {K : Kx} {E : Ex} (hE : Stb E) (hF : ∀ (A : Nat → Prop) (s : State), E A s → KF S K A s s.heap) (x : Sk) (hT : ∀ (A : Nat → Prop) (s : State), E A s → StrAt x A s s.heap) (b v : Nat) (c : Int32) (g : Nat → Int32) : CY S K E yJ5_inflateIfNeededFor_a7421 cJ5_inflateIfNeededFor_a7421 2 none rmY_J5_inflateIfNeededFor_a7421 [.ref b, .ref x.1] ([sbD K b v c g]) (QYv S ([sbD K b v c g]) (fun _ => [sbD K b v c g])) 0 0 := by
  refine y_metv (own := RJ5) (by decide +kernel) rfl (Nat.le_of_ble_eq_true rfl) hE (fun X A hX hE2 hI hR => ?_)
  show Y X S K A 0 0 [sbD K b v c g] 0 [(0, .ref b), (1, .ref x.1)] []
  refine Y_gets (v := .int 1) hX hE2 (fun s h => (hF A s h).2.2.1) fk_J5_18 dJ5_inflateIfNeededFor_a7421_0 ?_
  refine Y_if_eq (tgt := 21) hX dJ5_inflateIfNeededFor_a7421_3 (by decide) (fun z => absurd z (show ¬ (1 : Int32) = 0 by decide)) (fun _ => ?_)
  refine Y_aload_n hX dJ5_inflateIfNeededFor_a7421_6 0 rfl ?_
  refine Y_get 0 0 hX fk_J5_22 rfl rfl rfl dJ5_inflateIfNeededFor_a7421_7 ?_
  refine Y_aload_n hX dJ5_inflateIfNeededFor_a7421_10 1 rfl ?_
  refine Y_resi hX (sub := []) (rst := [sbD K b v c g]) rfl (Y_runT (x := x) (As := []) (rest := [.int 0]) hX hE2 (fun s h => hT A s h) mk_J5_40 nkY_J0_coder_7d493 hE (cY_J0_coder_7d493 hE hF x hT) rfl Ecall.same ⟨rfl, rfl⟩ ⟨Nat.le_of_ble_eq_true rfl, Nat.le_of_ble_eq_true rfl⟩ rfl rfl (Nat.le_of_ble_eq_true rfl) dJ5_inflateIfNeededFor_a7421_11 ⟨Nat.le_of_ble_eq_true rfl, Nat.le_of_ble_eq_true rfl⟩) (fun u11 => ?_)
  show Y X S K A 0 0 [sbD K b v c g] 14 [(0, .ref b), (1, .ref x.1)] [.int 0, .int 0]
  refine Y_icmp_eq (tgt := 21) hX dJ5_inflateIfNeededFor_a7421_14 (by decide) (fun _ => ?_) (fun z => absurd (show (0 : Int32) = 0 from rfl) z)
  exact hR (fun _ => 0) _ _ dJ5_inflateIfNeededFor_a7421_21
abbrev rmY_J0_getBytes_840e7 : Room := { frames := 2, cells := 0, slots := 0, locals := 84 }
set_option maxHeartbeats 4000000 in
theorem cY_J0_getBytes_840e7 {S : Sx} {K : Kx} {E : Ex} (hE : Stb E) (hF : ∀ (A : Nat → Prop) (s : State), E A s → KF S K A s s.heap) (x : Sk) (hT : ∀ (A : Nat → Prop) (s : State), E A s → StrAt x A s s.heap) (b v : Nat) (c : Int32) (l : List Int32) (hl : l.length + x.2.2.length ≤ 16) (hfit : ∀ i : Nat, fits .byte (.int (x.2.2.getD i 0)) = true) : CY S K E yJ0_getBytes_840e7 cJ0_getBytes_840e7 4 none rmY_J0_getBytes_840e7 [.ref x.1, .ref v, .int (nI l.length), .int 0] ([sbD K b v c (lsF l)]) (QYv S ([sbD K b v c (lsF l)]) (fun _ => [sbD K b v c (lsF (l ++ x.2.2))])) 0 0 := by
  refine y_metv (own := RJ0) (by decide +kernel) rfl (Nat.le_of_ble_eq_true rfl) hE (fun X A hX hE2 hI hR => ?_)
  show Y X S K A 0 0 [sbD K b v c (lsF l)] 0 [(0, .ref x.1), (1, .ref v), (2, .int (nI l.length)), (3, .int 0)] []
  refine Y_aload_n hX dJ0_getBytes_840e7_0 0 rfl ?_
  refine Y_resi hX (sub := []) (rst := [sbD K b v c (lsF l)]) rfl (Y_runT (x := x) (As := []) (rest := []) hX hE2 (fun s h => hT A s h) mk_J0_335 nkY_J0_coder_7d493 hE (cY_J0_coder_7d493 hE hF x hT) rfl Ecall.same ⟨rfl, rfl⟩ ⟨Nat.le_of_ble_eq_true rfl, Nat.le_of_ble_eq_true rfl⟩ rfl rfl (Nat.le_of_ble_eq_true rfl) dJ0_getBytes_840e7_1 ⟨Nat.le_of_ble_eq_true rfl, Nat.le_of_ble_eq_true rfl⟩) (fun u1 => ?_)
  show Y X S K A 0 0 [sbD K b v c (lsF l)] 4 [(0, .ref x.1), (1, .ref v), (2, .int (nI l.length)), (3, .int 0)] [.int 0]
  refine Y_iload_n hX dJ0_getBytes_840e7_4 3 rfl ?_
  refine Y_icmp_ne (tgt := 28) hX dJ0_getBytes_840e7_5 (by decide) (fun z => absurd (show (0 : Int32) = 0 from rfl) z) (fun _ => ?_)
  refine Y_aload_n hX dJ0_getBytes_840e7_8 0 rfl ?_
  refine Y_sval (x := x) hX hE2 (fun s h => hT A s h) dJ0_getBytes_840e7_9 ?_
  refine Y_iconst (v := 0) hX dJ0_getBytes_840e7_12 (by decide) ?_
  refine Y_aload_n hX dJ0_getBytes_840e7_13 1 rfl ?_
  refine Y_iload_n hX dJ0_getBytes_840e7_14 2 rfl ?_
  refine Y_iload_n hX dJ0_getBytes_840e7_15 3 rfl ?_
  refine Y_ishl hX dJ0_getBytes_840e7_16 ?_
  refine Y_eqi (x' := nI l.length) (ishl0 _) ?_
  refine Y_aload_n hX dJ0_getBytes_840e7_17 0 rfl ?_
  refine Y_sval (x := x) hX hE2 (fun s h => hT A s h) dJ0_getBytes_840e7_18 ?_
  refine Y_slen (x := x) hX hE2 (fun s h => hT A s h) dJ0_getBytes_840e7_21 ?_
  refine Y_copyT (x := x) 0 1 hX hE2 (fun s h => hT A s h) mk_J0_212 rfl rfl ⟨by decide, nI_pos (by omega), nI_pos (by omega), by rw [nI_clamp (by omega)]; exact Nat.le_of_eq (Nat.zero_add _), by rw [nI_clamp (by omega), nI_clamp (by omega)]; exact hl⟩ hfit ⟨Nat.le_of_ble_eq_true rfl, Nat.le_of_ble_eq_true rfl⟩ dJ0_getBytes_840e7_22 ?_
  show Y X S K A 0 0 [[(b, .inr (1, [.ref v, .int 0, .int 0, .int c])), (v, .inl (K.1 0, 16, .inl (va_cpy (fun j => x.2.2.getD j 0) (lsF l) (0 : Int32).toNatClampNeg (nI l.length).toNatClampNeg (nI x.2.2.length).toNatClampNeg)))]] 25 [(0, .ref x.1), (1, .ref v), (2, .int (nI l.length)), (3, .int 0)] []
  rw [ls_put (by omega) (by omega)]
  refine Y_goto (tgt := 43) hX dJ0_getBytes_840e7_25 (by decide) ?_
  exact hR (fun _ => 0) _ _ dJ0_getBytes_840e7_43
abbrev rmY_J5_putStringAt_47b60 : Room := { frames := 3, cells := 0, slots := 0, locals := 107 }
set_option maxHeartbeats 4000000 in
theorem cY_J5_putStringAt_47b60 {S : Sx} {K : Kx} {E : Ex} (hE : Stb E) (hF : ∀ (A : Nat → Prop) (s : State), E A s → KF S K A s s.heap) (hV : ∀ (A : Nat → Prop) (s : State), E A s → PVs s) (x : Sk) (hT : ∀ (A : Nat → Prop) (s : State), E A s → StrAt x A s s.heap) (b v : Nat) (c : Int32) (l : List Int32) (hl : l.length + x.2.2.length ≤ 16) (hfit : ∀ i : Nat, fits .byte (.int (x.2.2.getD i 0)) = true) : CY S K E yJ5_putStringAt_47b60 cJ5_putStringAt_47b60 3 none rmY_J5_putStringAt_47b60 [.ref b, .int (nI l.length), .ref x.1] ([sbD K b v c (lsF l)]) (QYv S ([sbD K b v c (lsF l)]) (fun _ => [sbD K b v c (lsF (l ++ x.2.2))])) 0 0 := by
  refine y_metv (own := RJ5) (by decide +kernel) rfl (Nat.le_of_ble_eq_true rfl) hE (fun X A hX hE2 hI hR => ?_)
  show Y X S K A 0 0 [sbD K b v c (lsF l)] 0 [(0, .ref b), (1, .int (nI l.length)), (2, .ref x.1)] []
  refine Y_aload_n hX dJ5_putStringAt_47b60_0 0 rfl ?_
  refine Y_aload_n hX dJ5_putStringAt_47b60_1 2 rfl ?_
  refine Y_resv hX (sub := [sbD K b v c (lsF l)]) (rst := []) rfl (Y_runU (b := 0) (i := 0) (As := [.ref x.1]) (rest := []) hX hE2 mu_J5_397 (fun s h => hV A s h) hE (cY_J5_inflateIfNeededFor_a7421 hE hF x hT b v c (lsF l)) rfl Ecall.same rfl rfl rfl ⟨rfl, rfl⟩ ⟨Nat.le_of_ble_eq_true rfl, Nat.le_of_ble_eq_true rfl⟩ rfl rfl (Nat.le_of_ble_eq_true rfl) dJ5_putStringAt_47b60_2 ⟨Nat.le_of_ble_eq_true rfl, Nat.le_of_ble_eq_true rfl⟩) (fun u2 => ?_)
  show Y X S K A 0 0 [sbD K b v c (lsF l)] 5 [(0, .ref b), (1, .int (nI l.length)), (2, .ref x.1)] []
  refine Y_aload_n hX dJ5_putStringAt_47b60_5 2 rfl ?_
  refine Y_aload_n hX dJ5_putStringAt_47b60_6 0 rfl ?_
  refine Y_get 0 0 hX fk_J5_15 rfl rfl rfl dJ5_putStringAt_47b60_7 ?_
  refine Y_iload_n hX dJ5_putStringAt_47b60_10 1 rfl ?_
  refine Y_aload_n hX dJ5_putStringAt_47b60_11 0 rfl ?_
  refine Y_get 0 0 hX fk_J5_22 rfl rfl rfl dJ5_putStringAt_47b60_12 ?_
  refine Y_resv hX (sub := [sbD K b v c (lsF l)]) (rst := []) rfl (Y_runT (x := x) (As := [.ref v, .int (nI l.length), .int 0]) (rest := []) hX hE2 (fun s h => hT A s h) mk_J5_399 nkY_J0_getBytes_840e7 hE (cY_J0_getBytes_840e7 hE hF x hT b v c l hl hfit) rfl Ecall.same ⟨rfl, rfl⟩ ⟨Nat.le_of_ble_eq_true rfl, Nat.le_of_ble_eq_true rfl⟩ rfl rfl (Nat.le_of_ble_eq_true rfl) dJ5_putStringAt_47b60_15 ⟨Nat.le_of_ble_eq_true rfl, Nat.le_of_ble_eq_true rfl⟩) (fun u15 => ?_)
  show Y X S K A 0 0 [sbD K b v c (lsF (l ++ x.2.2))] 18 [(0, .ref b), (1, .int (nI l.length)), (2, .ref x.1)] []
  exact hR (fun _ => 0) _ _ dJ5_putStringAt_47b60_18
abbrev rmY_J5_append_cf1ce : Room := { frames := 4, cells := 0, slots := 0, locals := 129 }
set_option maxHeartbeats 4000000 in
theorem cY_J5_append_cf1ce {S : Sx} {K : Kx} {E : Ex} (hE : Stb E) (hF : ∀ (A : Nat → Prop) (s : State), E A s → KF S K A s s.heap) (hV : ∀ (A : Nat → Prop) (s : State), E A s → PVs s) (x : Sk) (hT : ∀ (A : Nat → Prop) (s : State), E A s → StrAt x A s s.heap) (b v : Nat) (l : List Int32) (hl : l.length + x.2.2.length ≤ 16) (hfit : ∀ i : Nat, fits .byte (.int (x.2.2.getD i 0)) = true) : CY S K E yJ5_append_cf1ce cJ5_append_cf1ce 3 (some (.object "java/lang/AbstractStringBuilder")) rmY_J5_append_cf1ce [.ref b, .ref x.1] ([sbD K b v (nI l.length) (lsF l)]) (QYq S ([sbD K b v (nI l.length) (lsF l)]) (fun _ => some b) (fun _ => [sbD K b v (nI (l ++ x.2.2).length) (lsF (l ++ x.2.2))])) 0 0 := by
  refine y_metq (own := RJ5) (.inl ⟨_, rfl⟩) (by decide +kernel) rfl (Nat.le_of_ble_eq_true rfl) hE (fun X A hX hE2 hI hR => ?_)
  show Y X S K A 0 0 [sbD K b v (nI l.length) (lsF l)] 0 [(0, .ref b), (1, .ref x.1)] []
  refine Y_aload_n hX dJ5_append_cf1ce_0 1 rfl ?_
  refine Y_ifnonnull (tgt := 9) hX dJ5_append_cf1ce_1 (by decide) ?_
  refine Y_aload_n hX dJ5_append_cf1ce_9 1 rfl ?_
  refine Y_resi hX (sub := []) (rst := [sbD K b v (nI l.length) (lsF l)]) rfl (Y_runT (x := x) (As := []) (rest := []) hX hE2 (fun s h => hT A s h) mk_J5_32 nkY_J0_length_8abf5 hE (cY_J0_length_8abf5 hE hF x hT (by omega)) rfl Ecall.same ⟨rfl, rfl⟩ ⟨Nat.le_of_ble_eq_true rfl, Nat.le_of_ble_eq_true rfl⟩ rfl rfl (Nat.le_of_ble_eq_true rfl) dJ5_append_cf1ce_10 ⟨Nat.le_of_ble_eq_true rfl, Nat.le_of_ble_eq_true rfl⟩) (fun u10 => ?_)
  show Y X S K A 0 0 [sbD K b v (nI l.length) (lsF l)] 13 [(0, .ref b), (1, .ref x.1)] [.int (nI x.2.2.length)]
  refine Y_istore_n (lv' := [(2, .int (nI x.2.2.length)), (0, .ref b), (1, .ref x.1)]) hX dJ5_append_cf1ce_13 (by decide) rfl ?_
  refine Y_aload_n hX dJ5_append_cf1ce_14 1 rfl ?_
  refine Y_aload_n hX dJ5_append_cf1ce_15 1 rfl ?_
  refine Y_get 0 0 hX fk_J5_79 rfl rfl rfl dJ5_append_cf1ce_16 ?_
  refine Y_iload_n hX dJ5_append_cf1ce_19 0 rfl ?_
  refine Y_iadd hX dJ5_append_cf1ce_20 ?_
  refine Y_eqi (x' := nI (l.length + x.2.2.length)) ((nI_add _ _)) ?_
  refine Y_resv hX (sub := [sbD K b v (nI l.length) (lsF l)]) (rst := []) rfl (Y_runU (b := 0) (i := 0) (As := [.int (nI (l.length + x.2.2.length))]) (rest := []) hX hE2 mu_J5_100 (fun s h => hV A s h) hE (cY_J5_ensureCapacityInternal_d00df hE hF b v (nI l.length) (lsF l) (l.length + x.2.2.length) hl) rfl Ecall.same rfl rfl rfl ⟨rfl, rfl⟩ ⟨Nat.le_of_ble_eq_true rfl, Nat.le_of_ble_eq_true rfl⟩ rfl rfl (Nat.le_of_ble_eq_true rfl) dJ5_append_cf1ce_21 ⟨Nat.le_of_ble_eq_true rfl, Nat.le_of_ble_eq_true rfl⟩) (fun u21 => ?_)
  show Y X S K A 0 0 [sbD K b v (nI l.length) (lsF l)] 24 [(2, .int (nI x.2.2.length)), (0, .ref b), (1, .ref x.1)] []
  refine Y_aload_n hX dJ5_append_cf1ce_24 1 rfl ?_
  refine Y_aload_n hX dJ5_append_cf1ce_25 1 rfl ?_
  refine Y_get 0 0 hX fk_J5_79 rfl rfl rfl dJ5_append_cf1ce_26 ?_
  refine Y_aload_n hX dJ5_append_cf1ce_29 2 rfl ?_
  refine Y_resv hX (sub := [sbD K b v (nI l.length) (lsF l)]) (rst := []) rfl (Y_runU (b := 0) (i := 0) (As := [.int (nI l.length), .ref x.1]) (rest := []) hX hE2 mu_J5_208 (fun s h => hV A s h) hE (cY_J5_putStringAt_47b60 hE hF hV x hT b v (nI l.length) l hl hfit) rfl Ecall.same rfl rfl rfl ⟨rfl, rfl⟩ ⟨Nat.le_of_ble_eq_true rfl, Nat.le_of_ble_eq_true rfl⟩ rfl rfl (Nat.le_of_ble_eq_true rfl) dJ5_append_cf1ce_30 ⟨Nat.le_of_ble_eq_true rfl, Nat.le_of_ble_eq_true rfl⟩) (fun u30 => ?_)
  show Y X S K A 0 0 [sbD K b v (nI l.length) (lsF (l ++ x.2.2))] 33 [(2, .int (nI x.2.2.length)), (0, .ref b), (1, .ref x.1)] []
  refine Y_aload_n hX dJ5_append_cf1ce_33 1 rfl ?_
  refine Y_dup hX dJ5_append_cf1ce_34 rfl ?_
  refine Y_get 0 0 hX fk_J5_79 rfl rfl rfl dJ5_append_cf1ce_35 ?_
  refine Y_iload_n hX dJ5_append_cf1ce_38 0 rfl ?_
  refine Y_iadd hX dJ5_append_cf1ce_39 ?_
  refine Y_eqi (x' := nI (l ++ x.2.2).length) ((by rw [nI_add, List.length_append])) ?_
  refine Y_put 0 0 hX fw_J5_79 rfl rfl ⟨rfl, rfl, Nat.le_of_ble_eq_true rfl⟩ dJ5_append_cf1ce_40 ?_
  show Y X S K A 0 0 [[(b, .inr (1, [.ref v, .int 0, .int 0, .int (nI (l ++ x.2.2).length)])), (v, .inl (K.1 0, 16, .inl (lsF (l ++ x.2.2))))]] 43 [(2, .int (nI x.2.2.length)), (0, .ref b), (1, .ref x.1)] []
  refine Y_aload_n hX dJ5_append_cf1ce_43 1 rfl ?_
  exact hR (fun _ => 0) _ _ dJ5_append_cf1ce_44
abbrev rmY_J4_append_15ec4 : Room := { frames := 5, cells := 0, slots := 0, locals := 151 }
set_option maxHeartbeats 4000000 in
theorem cY_J4_append_15ec4 {S : Sx} {K : Kx} {E : Ex} (hE : Stb E) (hF : ∀ (A : Nat → Prop) (s : State), E A s → KF S K A s s.heap) (hV : ∀ (A : Nat → Prop) (s : State), E A s → PVs s) (x : Sk) (hT : ∀ (A : Nat → Prop) (s : State), E A s → StrAt x A s s.heap) (b v : Nat) (l : List Int32) (hl : l.length + x.2.2.length ≤ 16) (hfit : ∀ i : Nat, fits .byte (.int (x.2.2.getD i 0)) = true) : CY S K E yJ4_append_15ec4 cJ4_append_15ec4 2 (some (.object "java/lang/StringBuilder")) rmY_J4_append_15ec4 [.ref b, .ref x.1] ([sbD K b v (nI l.length) (lsF l)]) (QYq S ([sbD K b v (nI l.length) (lsF l)]) (fun _ => some b) (fun _ => [sbD K b v (nI (l ++ x.2.2).length) (lsF (l ++ x.2.2))])) 0 0 := by
  refine y_metq (own := RJ4) (.inl ⟨_, rfl⟩) (by decide +kernel) rfl (Nat.le_of_ble_eq_true rfl) hE (fun X A hX hE2 hI hR => ?_)
  show Y X S K A 0 0 [sbD K b v (nI l.length) (lsF l)] 0 [(0, .ref b), (1, .ref x.1)] []
  refine Y_aload_n hX dJ4_append_15ec4_0 0 rfl ?_
  refine Y_aload_n hX dJ4_append_15ec4_1 1 rfl ?_
  refine Y_resq hX (sub := [sbD K b v (nI l.length) (lsF l)]) (rst := []) rfl (Y_runSU (b := 0) (i := 0) (As := [.ref x.1]) (rest := []) hX hE2 su_J4_29 hE (cY_J5_append_cf1ce hE hF hV x hT b v l hl hfit) rfl Ecall.same rfl rfl rfl ⟨rfl, rfl⟩ ⟨Nat.le_of_ble_eq_true rfl, Nat.le_of_ble_eq_true rfl⟩ rfl rfl (Nat.le_of_ble_eq_true rfl) dJ4_append_15ec4_2 ⟨Nat.le_of_ble_eq_true rfl, Nat.le_of_ble_eq_true rfl⟩) (fun u2 => ?_)
  show Y X S K A 0 0 [sbD K b v (nI (l ++ x.2.2).length) (lsF (l ++ x.2.2))] 5 [(0, .ref b), (1, .ref x.1)] [.ref b]
  refine Y_pop hX dJ4_append_15ec4_5 rfl ?_
  refine Y_aload_n hX dJ4_append_15ec4_6 0 rfl ?_
  exact hR (fun _ => 0) _ _ dJ4_append_15ec4_7
abbrev rmY_J6_stringSize_0f7a4 : Room := { frames := 0, cells := 0, slots := 0, locals := 0 }
set_option maxHeartbeats 4000000 in
theorem cY_J6_stringSize_0f7a4 {S : Sx} {K : Kx} {E : Ex} (hE : Stb E) (hF : ∀ (A : Nat → Prop) (s : State), E A s → KF S K A s s.heap) (v : Nat) (hv : v < 100) : CY S K E yJ6_stringSize_0f7a4 cJ6_stringSize_0f7a4 4 (some .int) rmY_J6_stringSize_0f7a4 [.int (nI v)] ([]) (QYi S ([]) (nI (szD v)) (fun _ => [])) 0 0 := by
  refine y_meti (own := RJ6) (by decide +kernel) rfl (Nat.le_of_ble_eq_true rfl) hE (fun X A hX hE2 hI hR => ?_)
  show Y X S K A 0 0 [] 0 [(0, .int (nI v))] []
  refine Y_iconst (v := 1) hX dJ6_stringSize_0f7a4_0 (by decide) ?_
  refine Y_istore_n (lv' := [(1, .int 1), (0, .int (nI v))]) hX dJ6_stringSize_0f7a4_1 (by decide) rfl ?_
  refine Y_iload_n hX dJ6_stringSize_0f7a4_2 1 rfl ?_
  refine Y_if_lt (tgt := 11) hX dJ6_stringSize_0f7a4_3 (by decide) (fun z => absurd z (nI_pos (by omega))) (fun _ => ?_)
  refine Y_iconst (v := 0) hX dJ6_stringSize_0f7a4_6 (by decide) ?_
  refine Y_istore_n (lv' := [(1, .int 0), (0, .int (nI v))]) hX dJ6_stringSize_0f7a4_7 (by decide) rfl ?_
  refine Y_iload_n hX dJ6_stringSize_0f7a4_8 1 rfl ?_
  refine Y_ineg hX dJ6_stringSize_0f7a4_9 ?_
  refine Y_istore_n (lv' := [(0, .int (-(nI v))), (1, .int 0)]) hX dJ6_stringSize_0f7a4_10 (by decide) rfl ?_
  refine Y_bipush (v := (-10)) hX dJ6_stringSize_0f7a4_11 (by decide) ?_
  refine Y_istore_n (lv' := [(2, .int (-10)), (0, .int (-(nI v))), (1, .int 0)]) hX dJ6_stringSize_0f7a4_13 (by decide) rfl ?_
  refine Y_iconst (v := 1) hX dJ6_stringSize_0f7a4_14 (by decide) ?_
  refine Y_istore_n (lv' := [(3, .int 1), (2, .int (-10)), (0, .int (-(nI v))), (1, .int 0)]) hX dJ6_stringSize_0f7a4_15 (by decide) rfl ?_
  refine Y_iload_n hX dJ6_stringSize_0f7a4_16 0 rfl ?_
  refine Y_bipush (v := 10) hX dJ6_stringSize_0f7a4_17 (by decide) ?_
  refine Y_icmp_ge (tgt := 42) hX dJ6_stringSize_0f7a4_19 (by decide) (fun z => absurd z (by decide)) (fun _ => ?_)
  refine Y_iload_n hX dJ6_stringSize_0f7a4_22 2 rfl ?_
  refine Y_iload_n hX dJ6_stringSize_0f7a4_23 1 rfl ?_
  refine Y_icmp_le (tgt := 31) hX dJ6_stringSize_0f7a4_24 (by decide) (fun h24 => ?_) (fun h24 => ?_)
  · refine Y_bipush (v := 10) hX dJ6_stringSize_0f7a4_31 (by decide) ?_
    refine Y_iload_n hX dJ6_stringSize_0f7a4_33 1 rfl ?_
    refine Y_imul hX dJ6_stringSize_0f7a4_34 ?_
    refine Y_eqi (x' := -100) ((by decide)) ?_
    refine Y_istore_n (lv' := [(2, .int (-100)), (3, .int 1), (0, .int (-(nI v))), (1, .int 0)]) hX dJ6_stringSize_0f7a4_35 (by decide) rfl ?_
    refine Y_iinc (v := 2) (lv' := [(3, .int 2), (2, .int (-100)), (0, .int (-(nI v))), (1, .int 0)]) hX dJ6_stringSize_0f7a4_36 (j := 1) rfl (by decide) (by decide) rfl ?_
    refine Y_goto (tgt := 16) hX dJ6_stringSize_0f7a4_39 (by decide) ?_
    refine Y_iload_n hX dJ6_stringSize_0f7a4_16 0 rfl ?_
    refine Y_bipush (v := 10) hX dJ6_stringSize_0f7a4_17 (by decide) ?_
    refine Y_icmp_ge (tgt := 42) hX dJ6_stringSize_0f7a4_19 (by decide) (fun z => absurd z (by decide)) (fun _ => ?_)
    refine Y_iload_n hX dJ6_stringSize_0f7a4_22 2 rfl ?_
    refine Y_iload_n hX dJ6_stringSize_0f7a4_23 1 rfl ?_
    refine Y_icmp_le (tgt := 31) hX dJ6_stringSize_0f7a4_24 (by decide) (fun z => absurd z ((sz_3 v hv).1)) (fun _ => ?_)
    refine Y_iload_n hX dJ6_stringSize_0f7a4_27 0 rfl ?_
    refine Y_iload_n hX dJ6_stringSize_0f7a4_28 3 rfl ?_
    refine Y_iadd hX dJ6_stringSize_0f7a4_29 ?_
    refine Y_eqi (x' := nI (szD v)) (sz_2 v hv h24).symm ?_
    exact hR (fun _ => 0) _ _ rfl dJ6_stringSize_0f7a4_30
  · refine Y_iload_n hX dJ6_stringSize_0f7a4_27 0 rfl ?_
    refine Y_iload_n hX dJ6_stringSize_0f7a4_28 3 rfl ?_
    refine Y_iadd hX dJ6_stringSize_0f7a4_29 ?_
    refine Y_eqi (x' := nI (szD v)) (sz_1 v hv h24).symm ?_
    exact hR (fun _ => 0) _ _ rfl dJ6_stringSize_0f7a4_30
abbrev rmY_J6_getChars_ba4f3 : Room := { frames := 0, cells := 0, slots := 0, locals := 0 }
set_option maxHeartbeats 4000000 in
theorem cY_J6_getChars_ba4f3 {S : Sx} {K : Kx} {E : Ex} (hE : Stb E) (hF : ∀ (A : Nat → Prop) (s : State), E A s → KF S K A s s.heap) (n : Nat) (hn : n < 100) (b v : Nat) (c : Int32) (l : List Int32) (hl : l.length + szD n ≤ 16) : CY S K E yJ6_getChars_ba4f3 cJ6_getChars_ba4f3 7 (some .int) rmY_J6_getChars_ba4f3 [.int (nI n), .int (nI (l.length + szD n)), .ref v] ([sbD K b v c (lsF l)]) (QYi S ([sbD K b v c (lsF l)]) (nI l.length) (fun _ => [sbD K b v c (lsF (l ++ dgL n))])) 0 0 := by
  by_cases h9 : (-9 : Int32) ≤ -(nI n)
  · obtain ⟨e1, e2⟩ := dg_1 n hn h9
    rw [e2] at hl ⊢
    refine y_meti (own := RJ6) (by decide +kernel) rfl (Nat.le_of_ble_eq_true rfl) hE (fun X A hX hE2 hI hR => ?_)
    show Y X S K A 0 0 [sbD K b v c (lsF l)] 0 [(0, .int (nI n)), (1, .int (nI (l.length + 1))), (2, .ref v)] []
    refine Y_iload_n hX dJ6_getChars_ba4f3_0 1 rfl ?_
    refine Y_istore (lv' := [(5, .int (nI (l.length + 1))), (0, .int (nI n)), (1, .int (nI (l.length + 1))), (2, .ref v)]) hX dJ6_getChars_ba4f3_1 (by decide) rfl ?_
    refine Y_iload_n hX dJ6_getChars_ba4f3_3 1 rfl ?_
    refine Y_if_ge (tgt := 11) hX dJ6_getChars_ba4f3_4 (by decide) (fun _ => ?_) (fun z => absurd (nI_pos' (by omega)) z)
    refine Y_iconst (v := 0) hX dJ6_getChars_ba4f3_11 (by decide) ?_
    refine Y_istore (lv' := [(6, .int 0), (5, .int (nI (l.length + 1))), (0, .int (nI n)), (1, .int (nI (l.length + 1))), (2, .ref v)]) hX dJ6_getChars_ba4f3_12 (by decide) rfl ?_
    refine Y_iload hX dJ6_getChars_ba4f3_14 0 rfl ?_
    refine Y_if_ne (tgt := 22) hX dJ6_getChars_ba4f3_16 (by decide) (fun z => absurd (show (0 : Int32) = 0 from rfl) z) (fun _ => ?_)
    refine Y_iload_n hX dJ6_getChars_ba4f3_19 2 rfl ?_
    refine Y_ineg hX dJ6_getChars_ba4f3_20 ?_
    refine Y_istore_n (lv' := [(0, .int (-(nI n))), (6, .int 0), (5, .int (nI (l.length + 1))), (1, .int (nI (l.length + 1))), (2, .ref v)]) hX dJ6_getChars_ba4f3_21 (by decide) rfl ?_
    refine Y_iload_n hX dJ6_getChars_ba4f3_22 0 rfl ?_
    refine Y_bipush (v := (-100)) hX dJ6_getChars_ba4f3_23 (by decide) ?_
    refine Y_icmp_gt (tgt := 72) hX dJ6_getChars_ba4f3_25 (by decide) (fun _ => ?_) (fun z => absurd ((sz_3 n hn).2) z)
    refine Y_aload_n hX dJ6_getChars_ba4f3_72 4 rfl ?_
    refine Y_iinc (v := nI l.length) (lv' := [(5, .int (nI l.length)), (0, .int (-(nI n))), (6, .int 0), (1, .int (nI (l.length + 1))), (2, .ref v)]) hX dJ6_getChars_ba4f3_73 (j := 2) rfl (by decide) (by exact bsub1 _) rfl ?_
    refine Y_iload hX dJ6_getChars_ba4f3_76 0 rfl ?_
    refine Y_gets (v := .ref (K.2 1)) hX hE2 (fun s h => (hF A s h).2.2.2.2.2.2.1) fk_J6_83 dJ6_getChars_ba4f3_78 ?_
    refine Y_iload_n hX dJ6_getChars_ba4f3_81 1 rfl ?_
    refine Y_ineg hX dJ6_getChars_ba4f3_82 ?_
    refine Y_tb hX hE2 (fun s h => (hF A s h).2.2.2.2.2.2.2.1) (by rw [ngng]; exact vp_in_nI (by omega) (by omega)) (by rw [ngng, nI_clamp (by omega)]) dJ6_getChars_ba4f3_83 ?_
    refine Y_bast 0 1 hX rfl rfl (vp_in_nI (by omega) (by omega)) dJ6_getChars_ba4f3_84 ?_
    show Y X S K A 0 0 [[(b, .inr (1, [.ref v, .int 0, .int 0, .int c])), (v, .inl (K.1 0, 16, .inl (upd (lsF l) (nI l.length).toNatClampNeg (vp_nar .byte (nI (48 + n % 10))))))]] 85 [(5, .int (nI l.length)), (0, .int (-(nI n))), (6, .int 0), (1, .int (nI (l.length + 1))), (2, .ref v)] []
    rw [show (upd (lsF l) (nI l.length).toNatClampNeg (vp_nar .byte (nI (48 + n % 10)))) = lsF (l ++ dgL n) from by rw [nI_clamp (by omega), (fit_48 _ (Nat.mod_lt _ (by decide))).2, e1]; exact ls_1]
    refine Y_iload_n hX dJ6_getChars_ba4f3_85 1 rfl ?_
    refine Y_bipush (v := (-9)) hX dJ6_getChars_ba4f3_86 (by decide) ?_
    refine Y_icmp_ge (tgt := 104) hX dJ6_getChars_ba4f3_88 (by decide) (fun _ => ?_) (fun z => absurd h9 z)
    refine Y_iload hX dJ6_getChars_ba4f3_104 2 rfl ?_
    refine Y_if_eq (tgt := 118) hX dJ6_getChars_ba4f3_106 (by decide) (fun _ => ?_) (fun z => absurd (show (0 : Int32) = 0 from rfl) z)
    refine Y_iload hX dJ6_getChars_ba4f3_118 0 rfl ?_
    exact hR (fun _ => 0) _ _ rfl dJ6_getChars_ba4f3_120
  · obtain ⟨e1, e2⟩ := dg_2 n hn h9
    rw [e2] at hl ⊢
    refine y_meti (own := RJ6) (by decide +kernel) rfl (Nat.le_of_ble_eq_true rfl) hE (fun X A hX hE2 hI hR => ?_)
    show Y X S K A 0 0 [sbD K b v c (lsF l)] 0 [(0, .int (nI n)), (1, .int (nI (l.length + 2))), (2, .ref v)] []
    refine Y_iload_n hX dJ6_getChars_ba4f3_0 1 rfl ?_
    refine Y_istore (lv' := [(5, .int (nI (l.length + 2))), (0, .int (nI n)), (1, .int (nI (l.length + 2))), (2, .ref v)]) hX dJ6_getChars_ba4f3_1 (by decide) rfl ?_
    refine Y_iload_n hX dJ6_getChars_ba4f3_3 1 rfl ?_
    refine Y_if_ge (tgt := 11) hX dJ6_getChars_ba4f3_4 (by decide) (fun _ => ?_) (fun z => absurd (nI_pos' (by omega)) z)
    refine Y_iconst (v := 0) hX dJ6_getChars_ba4f3_11 (by decide) ?_
    refine Y_istore (lv' := [(6, .int 0), (5, .int (nI (l.length + 2))), (0, .int (nI n)), (1, .int (nI (l.length + 2))), (2, .ref v)]) hX dJ6_getChars_ba4f3_12 (by decide) rfl ?_
    refine Y_iload hX dJ6_getChars_ba4f3_14 0 rfl ?_
    refine Y_if_ne (tgt := 22) hX dJ6_getChars_ba4f3_16 (by decide) (fun z => absurd (show (0 : Int32) = 0 from rfl) z) (fun _ => ?_)
    refine Y_iload_n hX dJ6_getChars_ba4f3_19 2 rfl ?_
    refine Y_ineg hX dJ6_getChars_ba4f3_20 ?_
    refine Y_istore_n (lv' := [(0, .int (-(nI n))), (6, .int 0), (5, .int (nI (l.length + 2))), (1, .int (nI (l.length + 2))), (2, .ref v)]) hX dJ6_getChars_ba4f3_21 (by decide) rfl ?_
    refine Y_iload_n hX dJ6_getChars_ba4f3_22 0 rfl ?_
    refine Y_bipush (v := (-100)) hX dJ6_getChars_ba4f3_23 (by decide) ?_
    refine Y_icmp_gt (tgt := 72) hX dJ6_getChars_ba4f3_25 (by decide) (fun _ => ?_) (fun z => absurd ((sz_3 n hn).2) z)
    refine Y_aload_n hX dJ6_getChars_ba4f3_72 4 rfl ?_
    refine Y_iinc (v := nI (l.length + 1)) (lv' := [(5, .int (nI (l.length + 1))), (0, .int (-(nI n))), (6, .int 0), (1, .int (nI (l.length + 2))), (2, .ref v)]) hX dJ6_getChars_ba4f3_73 (j := 2) rfl (by decide) (by exact bsub1 _) rfl ?_
    refine Y_iload hX dJ6_getChars_ba4f3_76 0 rfl ?_
    refine Y_gets (v := .ref (K.2 1)) hX hE2 (fun s h => (hF A s h).2.2.2.2.2.2.1) fk_J6_83 dJ6_getChars_ba4f3_78 ?_
    refine Y_iload_n hX dJ6_getChars_ba4f3_81 1 rfl ?_
    refine Y_ineg hX dJ6_getChars_ba4f3_82 ?_
    refine Y_tb hX hE2 (fun s h => (hF A s h).2.2.2.2.2.2.2.1) (by rw [ngng]; exact vp_in_nI (by omega) (by omega)) (by rw [ngng, nI_clamp (by omega)]) dJ6_getChars_ba4f3_83 ?_
    refine Y_bast 0 1 hX rfl rfl (vp_in_nI (by omega) (by omega)) dJ6_getChars_ba4f3_84 ?_
    show Y X S K A 0 0 [[(b, .inr (1, [.ref v, .int 0, .int 0, .int c])), (v, .inl (K.1 0, 16, .inl (upd (lsF l) (nI (l.length + 1)).toNatClampNeg (vp_nar .byte (nI (48 + n % 10))))))]] 85 [(5, .int (nI (l.length + 1))), (0, .int (-(nI n))), (6, .int 0), (1, .int (nI (l.length + 2))), (2, .ref v)] []
    rw [show (upd (lsF l) (nI (l.length + 1)).toNatClampNeg (vp_nar .byte (nI (48 + n % 10)))) = upd (lsF l) (l.length + 1) (nI (48 + n % 10)) from by rw [nI_clamp (by omega), (fit_48 _ (Nat.mod_lt _ (by decide))).2]]
    refine Y_iload_n hX dJ6_getChars_ba4f3_85 1 rfl ?_
    refine Y_bipush (v := (-9)) hX dJ6_getChars_ba4f3_86 (by decide) ?_
    refine Y_icmp_ge (tgt := 104) hX dJ6_getChars_ba4f3_88 (by decide) (fun z => absurd z h9) (fun _ => ?_)
    refine Y_aload_n hX dJ6_getChars_ba4f3_91 4 rfl ?_
    refine Y_iinc (v := nI l.length) (lv' := [(5, .int (nI l.length)), (0, .int (-(nI n))), (6, .int 0), (1, .int (nI (l.length + 2))), (2, .ref v)]) hX dJ6_getChars_ba4f3_92 (j := 0) rfl (by decide) (by exact bsub1 _) rfl ?_
    refine Y_iload hX dJ6_getChars_ba4f3_95 0 rfl ?_
    refine Y_gets (v := .ref (K.2 2)) hX hE2 (fun s h => (hF A s h).2.2.2.2.2.2.2.2.1) fk_J6_87 dJ6_getChars_ba4f3_97 ?_
    refine Y_iload_n hX dJ6_getChars_ba4f3_100 1 rfl ?_
    refine Y_ineg hX dJ6_getChars_ba4f3_101 ?_
    refine Y_tb hX hE2 (fun s h => (hF A s h).2.2.2.2.2.2.2.2.2.1) (by rw [ngng]; exact vp_in_nI (by omega) (by omega)) (by rw [ngng, nI_clamp (by omega)]) dJ6_getChars_ba4f3_102 ?_
    refine Y_bast 0 1 hX rfl rfl (vp_in_nI (by omega) (by omega)) dJ6_getChars_ba4f3_103 ?_
    show Y X S K A 0 0 [[(b, .inr (1, [.ref v, .int 0, .int 0, .int c])), (v, .inl (K.1 0, 16, .inl (upd (upd (lsF l) (l.length + 1) (nI (48 + n % 10))) (nI l.length).toNatClampNeg (vp_nar .byte (nI (48 + n / 10))))))]] 104 [(5, .int (nI l.length)), (0, .int (-(nI n))), (6, .int 0), (1, .int (nI (l.length + 2))), (2, .ref v)] []
    rw [show (upd (upd (lsF l) (l.length + 1) (nI (48 + n % 10))) (nI l.length).toNatClampNeg (vp_nar .byte (nI (48 + n / 10)))) = lsF (l ++ dgL n) from by rw [nI_clamp (by omega), (fit_48 _ (by omega)).2, e1]; exact ls_2]
    refine Y_iload hX dJ6_getChars_ba4f3_104 2 rfl ?_
    refine Y_if_eq (tgt := 118) hX dJ6_getChars_ba4f3_106 (by decide) (fun _ => ?_) (fun z => absurd (show (0 : Int32) = 0 from rfl) z)
    refine Y_iload hX dJ6_getChars_ba4f3_118 0 rfl ?_
    exact hR (fun _ => 0) _ _ rfl dJ6_getChars_ba4f3_120
abbrev rmY_J5_append_c97b9 : Room := { frames := 1, cells := 0, slots := 0, locals := 26 }
set_option maxHeartbeats 4000000 in
theorem cY_J5_append_c97b9 {S : Sx} {K : Kx} {E : Ex} (hE : Stb E) (hF : ∀ (A : Nat → Prop) (s : State), E A s → KF S K A s s.heap) (hV : ∀ (A : Nat → Prop) (s : State), E A s → PVs s) (b v : Nat) (l : List Int32) (n : Nat) (hn : n < 100) (hl : l.length + szD n ≤ 16) : CY S K E yJ5_append_c97b9 cJ5_append_c97b9 4 (some (.object "java/lang/AbstractStringBuilder")) rmY_J5_append_c97b9 [.ref b, .int (nI n)] ([sbD K b v (nI l.length) (lsF l)]) (QYq S ([sbD K b v (nI l.length) (lsF l)]) (fun _ => some b) (fun _ => [sbD K b v (nI (l ++ dgL n).length) (lsF (l ++ dgL n))])) 0 0 := by
  refine y_metq (own := RJ5) (.inl ⟨_, rfl⟩) (by decide +kernel) rfl (Nat.le_of_ble_eq_true rfl) hE (fun X A hX hE2 hI hR => ?_)
  show Y X S K A 0 0 [sbD K b v (nI l.length) (lsF l)] 0 [(0, .ref b), (1, .int (nI n))] []
  refine Y_aload_n hX dJ5_append_c97b9_0 0 rfl ?_
  refine Y_get 0 0 hX fk_J5_79 rfl rfl rfl dJ5_append_c97b9_1 ?_
  refine Y_istore_n (lv' := [(2, .int (nI l.length)), (0, .ref b), (1, .int (nI n))]) hX dJ5_append_c97b9_4 (by decide) rfl ?_
  refine Y_iload_n hX dJ5_append_c97b9_5 0 rfl ?_
  refine Y_iload_n hX dJ5_append_c97b9_6 2 rfl ?_
  refine Y_resi hX (sub := []) (rst := [sbD K b v (nI l.length) (lsF l)]) rfl (Y_runS (As := [.int (nI n)]) (rest := [.int (nI l.length)]) hX hE2 mk_J5_245 nkY_J6_stringSize_0f7a4 hE (cY_J6_stringSize_0f7a4 hE hF n hn) rfl Ecall.same ⟨rfl, rfl⟩ ⟨Nat.le_of_ble_eq_true rfl, Nat.le_of_ble_eq_true rfl⟩ rfl rfl (Nat.le_of_ble_eq_true rfl) dJ5_append_c97b9_7 ⟨Nat.le_of_ble_eq_true rfl, Nat.le_of_ble_eq_true rfl⟩) (fun u7 => ?_)
  show Y X S K A 0 0 [sbD K b v (nI l.length) (lsF l)] 10 [(2, .int (nI l.length)), (0, .ref b), (1, .int (nI n))] [.int (nI (szD n)), .int (nI l.length)]
  refine Y_iadd hX dJ5_append_c97b9_10 ?_
  refine Y_eqi (x' := nI (l.length + szD n)) ((nI_add _ _)) ?_
  refine Y_istore_n (lv' := [(3, .int (nI (l.length + szD n))), (2, .int (nI l.length)), (0, .ref b), (1, .int (nI n))]) hX dJ5_append_c97b9_11 (by decide) rfl ?_
  refine Y_aload_n hX dJ5_append_c97b9_12 2 rfl ?_
  refine Y_iload_n hX dJ5_append_c97b9_13 0 rfl ?_
  refine Y_resv hX (sub := [sbD K b v (nI l.length) (lsF l)]) (rst := []) rfl (Y_runU (b := 0) (i := 0) (As := [.int (nI (l.length + szD n))]) (rest := []) hX hE2 mu_J5_100 (fun s h => hV A s h) hE (cY_J5_ensureCapacityInternal_d00df hE hF b v (nI l.length) (lsF l) (l.length + szD n) hl) rfl Ecall.same rfl rfl rfl ⟨rfl, rfl⟩ ⟨Nat.le_of_ble_eq_true rfl, Nat.le_of_ble_eq_true rfl⟩ rfl rfl (Nat.le_of_ble_eq_true rfl) dJ5_append_c97b9_14 ⟨Nat.le_of_ble_eq_true rfl, Nat.le_of_ble_eq_true rfl⟩) (fun u14 => ?_)
  show Y X S K A 0 0 [sbD K b v (nI l.length) (lsF l)] 17 [(3, .int (nI (l.length + szD n))), (2, .int (nI l.length)), (0, .ref b), (1, .int (nI n))] []
  refine Y_aload_n hX dJ5_append_c97b9_17 2 rfl ?_
  refine Y_resi hX (sub := [sbD K b v (nI l.length) (lsF l)]) (rst := []) rfl (Y_runU (b := 0) (i := 0) (As := []) (rest := []) hX hE2 mu_J5_83 (fun _ _ => trivial) hE (cY_J5_isLatin1_aae02 hE hF b v (nI l.length) (lsF l)) rfl Ecall.same rfl rfl rfl ⟨rfl, rfl⟩ ⟨Nat.le_of_ble_eq_true rfl, Nat.le_of_ble_eq_true rfl⟩ rfl rfl (Nat.le_of_ble_eq_true rfl) dJ5_append_c97b9_18 ⟨Nat.le_of_ble_eq_true rfl, Nat.le_of_ble_eq_true rfl⟩) (fun u18 => ?_)
  show Y X S K A 0 0 [sbD K b v (nI l.length) (lsF l)] 21 [(3, .int (nI (l.length + szD n))), (2, .int (nI l.length)), (0, .ref b), (1, .int (nI n))] [.int 1]
  refine Y_if_eq (tgt := 37) hX dJ5_append_c97b9_21 (by decide) (fun z => absurd z (show ¬ (1 : Int32) = 0 by decide)) (fun _ => ?_)
  refine Y_iload_n hX dJ5_append_c97b9_24 3 rfl ?_
  refine Y_iload_n hX dJ5_append_c97b9_25 0 rfl ?_
  refine Y_aload_n hX dJ5_append_c97b9_26 2 rfl ?_
  refine Y_get 0 0 hX fk_J5_15 rfl rfl rfl dJ5_append_c97b9_27 ?_
  refine Y_resi hX (sub := [sbD K b v (nI l.length) (lsF l)]) (rst := []) rfl (Y_runS (As := [.int (nI n), .int (nI (l.length + szD n)), .ref v]) (rest := []) hX hE2 mk_J5_248 nkY_J6_getChars_ba4f3 hE (cY_J6_getChars_ba4f3 hE hF n hn b v (nI l.length) l hl) rfl Ecall.same ⟨rfl, rfl⟩ ⟨Nat.le_of_ble_eq_true rfl, Nat.le_of_ble_eq_true rfl⟩ rfl rfl (Nat.le_of_ble_eq_true rfl) dJ5_append_c97b9_30 ⟨Nat.le_of_ble_eq_true rfl, Nat.le_of_ble_eq_true rfl⟩) (fun u30 => ?_)
  show Y X S K A 0 0 [sbD K b v (nI l.length) (lsF (l ++ dgL n))] 33 [(3, .int (nI (l.length + szD n))), (2, .int (nI l.length)), (0, .ref b), (1, .int (nI n))] [.int (nI l.length)]
  refine Y_pop hX dJ5_append_c97b9_33 rfl ?_
  refine Y_goto (tgt := 48) hX dJ5_append_c97b9_34 (by decide) ?_
  refine Y_aload_n hX dJ5_append_c97b9_48 2 rfl ?_
  refine Y_iload_n hX dJ5_append_c97b9_49 0 rfl ?_
  refine Y_eqi (x' := nI (l ++ dgL n).length) ((by rw [List.length_append, dg_len])) ?_
  refine Y_put 0 0 hX fw_J5_79 rfl rfl ⟨rfl, rfl, Nat.le_of_ble_eq_true rfl⟩ dJ5_append_c97b9_50 ?_
  show Y X S K A 0 0 [[(b, .inr (1, [.ref v, .int 0, .int 0, .int (nI (l ++ dgL n).length)])), (v, .inl (K.1 0, 16, .inl (lsF (l ++ dgL n))))]] 53 [(3, .int (nI (l.length + szD n))), (2, .int (nI l.length)), (0, .ref b), (1, .int (nI n))] []
  refine Y_aload_n hX dJ5_append_c97b9_53 2 rfl ?_
  exact hR (fun _ => 0) _ _ dJ5_append_c97b9_54
abbrev rmY_J4_append_bf812 : Room := { frames := 2, cells := 0, slots := 0, locals := 49 }
set_option maxHeartbeats 4000000 in
theorem cY_J4_append_bf812 {S : Sx} {K : Kx} {E : Ex} (hE : Stb E) (hF : ∀ (A : Nat → Prop) (s : State), E A s → KF S K A s s.heap) (hV : ∀ (A : Nat → Prop) (s : State), E A s → PVs s) (b v : Nat) (l : List Int32) (n : Nat) (hn : n < 100) (hl : l.length + szD n ≤ 16) : CY S K E yJ4_append_bf812 cJ4_append_bf812 2 (some (.object "java/lang/StringBuilder")) rmY_J4_append_bf812 [.ref b, .int (nI n)] ([sbD K b v (nI l.length) (lsF l)]) (QYq S ([sbD K b v (nI l.length) (lsF l)]) (fun _ => some b) (fun _ => [sbD K b v (nI (l ++ dgL n).length) (lsF (l ++ dgL n))])) 0 0 := by
  refine y_metq (own := RJ4) (.inl ⟨_, rfl⟩) (by decide +kernel) rfl (Nat.le_of_ble_eq_true rfl) hE (fun X A hX hE2 hI hR => ?_)
  show Y X S K A 0 0 [sbD K b v (nI l.length) (lsF l)] 0 [(0, .ref b), (1, .int (nI n))] []
  refine Y_aload_n hX dJ4_append_bf812_0 0 rfl ?_
  refine Y_iload_n hX dJ4_append_bf812_1 1 rfl ?_
  refine Y_resq hX (sub := [sbD K b v (nI l.length) (lsF l)]) (rst := []) rfl (Y_runSU (b := 0) (i := 0) (As := [.int (nI n)]) (rest := []) hX hE2 su_J4_53 hE (cY_J5_append_c97b9 hE hF hV b v l n hn hl) rfl Ecall.same rfl rfl rfl ⟨rfl, rfl⟩ ⟨Nat.le_of_ble_eq_true rfl, Nat.le_of_ble_eq_true rfl⟩ rfl rfl (Nat.le_of_ble_eq_true rfl) dJ4_append_bf812_2 ⟨Nat.le_of_ble_eq_true rfl, Nat.le_of_ble_eq_true rfl⟩) (fun u2 => ?_)
  show Y X S K A 0 0 [sbD K b v (nI (l ++ dgL n).length) (lsF (l ++ dgL n))] 5 [(0, .ref b), (1, .int (nI n))] [.ref b]
  refine Y_pop hX dJ4_append_bf812_5 rfl ?_
  refine Y_aload_n hX dJ4_append_bf812_6 0 rfl ?_
  exact hR (fun _ => 0) _ _ dJ4_append_bf812_7
abbrev rmY_J5_init_d00df : Room := { frames := 1, cells := 1, slots := 16, locals := 40 }
set_option maxHeartbeats 4000000 in
theorem cY_J5_init_d00df {S : Sx} {K : Kx} {E : Ex} (hE : Stb E) (hF : ∀ (A : Nat → Prop) (s : State), E A s → KF S K A s s.heap) (b : Nat) : CY S K E yJ5_init_d00df cJ5_init_d00df 2 none rmY_J5_init_d00df [.ref b, .int 16] ([[(b, .inr (1, [.null, .int 0, .int 0, .int 0]))]]) (QYv S ([[(b, .inr (1, [.null, .int 0, .int 0, .int 0]))]]) (fun u => [sbD K b (u 0) 0 (lsF [])])) 1 16 := by
  refine y_metv (own := RJ5) (by decide +kernel) rfl (Nat.le_of_ble_eq_true rfl) hE (fun X A hX hE2 hI hR => ?_)
  show Y X S K A 0 0 [[(b, .inr (1, [.null, .int 0, .int 0, .int 0]))]] 0 [(0, .ref b), (1, .int 16)] []
  refine Y_aload_n hX dJ5_init_d00df_0 0 rfl ?_
  refine Y_objInit hX ob_J5_3 ⟨Nat.le_of_ble_eq_true rfl, Nat.le_of_ble_eq_true rfl⟩ dJ5_init_d00df_1 ?_
  refine Y_gets (v := .int 1) hX hE2 (fun s h => (hF A s h).2.2.1) fk_J5_18 dJ5_init_d00df_4 ?_
  refine Y_if_eq (tgt := 25) hX dJ5_init_d00df_7 (by decide) (fun z => absurd z (show ¬ (1 : Int32) = 0 by decide)) (fun _ => ?_)
  refine Y_aload_n hX dJ5_init_d00df_10 0 rfl ?_
  refine Y_iload_n hX dJ5_init_d00df_11 1 rfl ?_
  refine Y_newa (at0 := .byte) (t0 := 4) (n := 16) (a0 := (16, .inl (fun _ => 0))) hX rfl ac_byte rfl (fun _ => rfl) ⟨by decide, by decide, Nat.le_of_ble_eq_true rfl⟩ ⟨Nat.le_of_ble_eq_true rfl, Nat.le_of_ble_eq_true rfl⟩ dJ5_init_d00df_12 (fun q => ?_)
  show Y X S K A 1 16 [[(b, .inr (1, [.null, .int 0, .int 0, .int 0]))], [(q, .inl (K.1 0, 16, .inl (fun _ => 0)))]] 14 [(0, .ref b), (1, .int 16)] [.ref q, .ref b]
  refine Y_put 0 0 hX fw_J5_15 rfl rfl ⟨rfl, rfl, Nat.le_of_ble_eq_true rfl⟩ dJ5_init_d00df_14 ?_
  show Y X S K A 1 16 [[(b, .inr (1, [.ref q, .int 0, .int 0, .int 0]))], [(q, .inl (K.1 0, 16, .inl (fun _ => 0)))]] 17 [(0, .ref b), (1, .int 16)] []
  refine Y_aload_n hX dJ5_init_d00df_17 0 rfl ?_
  refine Y_iconst (v := 0) hX dJ5_init_d00df_18 (by decide) ?_
  refine Y_put 0 0 hX fw_J5_22 rfl rfl ⟨rfl, rfl, Nat.le_of_ble_eq_true rfl⟩ dJ5_init_d00df_19 ?_
  show Y X S K A 1 16 [[(b, .inr (1, [.ref q, .int 0, .int 0, .int 0]))], [(q, .inl (K.1 0, 16, .inl (fun _ => 0)))]] 22 [(0, .ref b), (1, .int 16)] []
  refine Y_goto (tgt := 38) hX dJ5_init_d00df_22 (by decide) ?_
  refine Y_fl (bl' := [sbD K b q 0 (lsF [])]) rfl ?_
  exact hR (fun _ => q) _ _ dJ5_init_d00df_38
abbrev rmY_J4_init_da8c8 : Room := { frames := 2, cells := 1, slots := 16, locals := 61 }
set_option maxHeartbeats 4000000 in
theorem cY_J4_init_da8c8 {S : Sx} {K : Kx} {E : Ex} (hE : Stb E) (hF : ∀ (A : Nat → Prop) (s : State), E A s → KF S K A s s.heap) (b : Nat) : CY S K E yJ4_init_da8c8 cJ4_init_da8c8 1 none rmY_J4_init_da8c8 [.ref b] ([[(b, .inr (1, [.null, .int 0, .int 0, .int 0]))]]) (QYv S ([[(b, .inr (1, [.null, .int 0, .int 0, .int 0]))]]) (fun u => [sbD K b (u 0) 0 (lsF [])])) 1 16 := by
  refine y_metv (own := RJ4) (by decide +kernel) rfl (Nat.le_of_ble_eq_true rfl) hE (fun X A hX hE2 hI hR => ?_)
  show Y X S K A 0 0 [[(b, .inr (1, [.null, .int 0, .int 0, .int 0]))]] 0 [(0, .ref b)] []
  refine Y_aload_n hX dJ4_init_da8c8_0 0 rfl ?_
  refine Y_bipush (v := 16) hX dJ4_init_da8c8_1 (by decide) ?_
  refine Y_resv hX (sub := [[(b, .inr (1, [.null, .int 0, .int 0, .int 0]))]]) (rst := []) rfl (Y_runI (As := [.int 16]) (rest := []) hX hE2 mk_J4_1 nkY_J5_init_d00df hE (cY_J5_init_d00df hE hF b) rfl Ecall.same ⟨rfl, rfl⟩ ⟨Nat.le_of_ble_eq_true rfl, Nat.le_of_ble_eq_true rfl⟩ rfl rfl (Nat.le_of_ble_eq_true rfl) dJ4_init_da8c8_3 ⟨Nat.le_of_ble_eq_true rfl, Nat.le_of_ble_eq_true rfl⟩) (fun u3 => ?_)
  show Y X S K A 1 16 [sbD K b (u3 0) 0 (lsF [])] 6 [(0, .ref b)] []
  exact hR u3 _ _ dJ4_init_da8c8_6
abbrev rmY_J7_checkLength_df160 : Room := { frames := 0, cells := 0, slots := 0, locals := 0 }
set_option maxHeartbeats 4000000 in
theorem cY_J7_checkLength_df160 {S : Sx} {K : Kx} {E : Ex} (hE : Stb E) (hF : ∀ (A : Nat → Prop) (s : State), E A s → KF S K A s s.heap) (n : Nat) (hn : n < 2 ^ 31) : CY S K E yJ7_checkLength_df160 cJ7_checkLength_df160 2 none rmY_J7_checkLength_df160 [.int 0, .int (nI n)] ([]) (QYv S ([]) (fun _ => [])) 0 0 := by
  refine y_metv (own := RJ7) (by decide +kernel) rfl (Nat.le_of_ble_eq_true rfl) hE (fun X A hX hE2 hI hR => ?_)
  show Y X S K A 0 0 [] 0 [(0, .int 0), (1, .int (nI n))] []
  refine Y_iload_n hX dJ7_checkLength_df160_0 1 rfl ?_
  refine Y_iload_n hX dJ7_checkLength_df160_1 0 rfl ?_
  refine Y_icmp_ge (tgt := 37) hX dJ7_checkLength_df160_2 (by decide) (fun _ => ?_) (fun z => absurd (nI_pos' hn) z)
  exact hR (fun _ => 0) _ _ dJ7_checkLength_df160_37
abbrev rmY_J7_copyOfRangeByte_39247 : Room := { frames := 1, cells := 1, slots := 16, locals := 80 }
set_option maxHeartbeats 4000000 in
theorem cY_J7_copyOfRangeByte_39247 {S : Sx} {K : Kx} {E : Ex} (hE : Stb E) (hF : ∀ (A : Nat → Prop) (s : State), E A s → KF S K A s s.heap) (b v : Nat) (c : Int32) (l : List Int32) (hl : l.length < 16) (hfit : ∀ i : Nat, fits .byte (.int (l.getD i 0)) = true) : CY S K E yJ7_copyOfRangeByte_39247 cJ7_copyOfRangeByte_39247 5 (some (.array .byte)) rmY_J7_copyOfRangeByte_39247 [.ref v, .int 0, .int (nI l.length)] ([sbD K b v c (lsF l)]) (QYq S ([sbD K b v c (lsF l)]) (fun u => some (u 0)) (fun u => [sbD K b v c (lsF l), [((u 0), .inl (K.1 0, l.length, .inl (lsF l)))]])) 1 16 := by
  refine y_metq (own := RJ7) (.inr ⟨_, rfl⟩) (by decide +kernel) rfl (Nat.le_of_ble_eq_true rfl) hE (fun X A hX hE2 hI hR => ?_)
  show Y X S K A 0 0 [sbD K b v c (lsF l)] 0 [(0, .ref v), (1, .int 0), (2, .int (nI l.length))] []
  refine Y_iload_n hX dJ7_copyOfRangeByte_39247_0 1 rfl ?_
  refine Y_iload_n hX dJ7_copyOfRangeByte_39247_1 2 rfl ?_
  refine Y_resv hX (sub := []) (rst := [sbD K b v c (lsF l)]) rfl (Y_runS (As := [.int 0, .int (nI l.length)]) (rest := []) hX hE2 mk_J7_343 nkY_J7_checkLength_df160 hE (cY_J7_checkLength_df160 hE hF l.length (by omega)) rfl Ecall.same ⟨rfl, rfl⟩ ⟨Nat.le_of_ble_eq_true rfl, Nat.le_of_ble_eq_true rfl⟩ rfl rfl (Nat.le_of_ble_eq_true rfl) dJ7_copyOfRangeByte_39247_2 ⟨Nat.le_of_ble_eq_true rfl, Nat.le_of_ble_eq_true rfl⟩) (fun u2 => ?_)
  show Y X S K A 0 0 [sbD K b v c (lsF l)] 5 [(0, .ref v), (1, .int 0), (2, .int (nI l.length))] []
  refine Y_iload_n hX dJ7_copyOfRangeByte_39247_5 2 rfl ?_
  refine Y_iload_n hX dJ7_copyOfRangeByte_39247_6 1 rfl ?_
  refine Y_isub hX dJ7_copyOfRangeByte_39247_7 ?_
  refine Y_eqi (x' := nI l.length) (isub0 _) ?_
  refine Y_istore_n (lv' := [(3, .int (nI l.length)), (0, .ref v), (1, .int 0), (2, .int (nI l.length))]) hX dJ7_copyOfRangeByte_39247_8 (by decide) rfl ?_
  refine Y_iload_n hX dJ7_copyOfRangeByte_39247_9 0 rfl ?_
  refine Y_newa (at0 := .byte) (t0 := 4) (n := l.length) (a0 := (l.length, .inl (fun _ => 0))) hX rfl ac_byte rfl (fun _ => rfl) ⟨nI_pos (by omega), nI_clamp (by omega), (by show l.length * 1 ≤ 536870912; omega)⟩ ⟨Nat.le_of_ble_eq_true rfl, (by show 0 + l.length ≤ 16; omega)⟩ dJ7_copyOfRangeByte_39247_10 (fun q => ?_)
  show Y X S K A 1 (0 + l.length) [sbD K b v c (lsF l), [(q, .inl (K.1 0, l.length, .inl (fun _ => 0)))]] 12 [(3, .int (nI l.length)), (0, .ref v), (1, .int 0), (2, .int (nI l.length))] [.ref q]
  refine Y_astore (lv' := [(4, .ref q), (3, .int (nI l.length)), (0, .ref v), (1, .int 0), (2, .int (nI l.length))]) hX dJ7_copyOfRangeByte_39247_12 (by decide) rfl ?_
  refine Y_aload_n hX dJ7_copyOfRangeByte_39247_14 2 rfl ?_
  refine Y_iload_n hX dJ7_copyOfRangeByte_39247_15 3 rfl ?_
  refine Y_aload hX dJ7_copyOfRangeByte_39247_16 0 rfl ?_
  refine Y_iconst (v := 0) hX dJ7_copyOfRangeByte_39247_18 (by decide) ?_
  refine Y_aload_n hX dJ7_copyOfRangeByte_39247_19 2 rfl ?_
  refine Y_alen (t0 := 4) (v := 16) 0 1 hX rfl rfl rfl rfl dJ7_copyOfRangeByte_39247_20 ?_
  refine Y_iload_n hX dJ7_copyOfRangeByte_39247_21 3 rfl ?_
  refine Y_isub hX dJ7_copyOfRangeByte_39247_22 ?_
  refine Y_eqi (x' := 16) ((by decide)) ?_
  refine Y_iload_n hX dJ7_copyOfRangeByte_39247_23 1 rfl ?_
  refine Y_min hX mk_J7_304 ⟨⟨Nat.le_of_ble_eq_true rfl, Nat.le_of_ble_eq_true rfl⟩, Nat.le_of_ble_eq_true rfl, (by show 0 + l.length ≤ 16; omega)⟩ dJ7_copyOfRangeByte_39247_24 ?_
  refine Y_eqi (x' := nI l.length) (min16 _ (by omega)) ?_
  refine Y_copyB 0 1 1 0 hX mk_J7_150 rfl rfl rfl rfl ⟨by decide, by decide, nI_pos (by omega), by rw [nI_clamp (by omega)]; show 0 + l.length ≤ 16; omega, by rw [nI_clamp (by omega)]; exact Nat.le_of_eq (Nat.zero_add _)⟩ hfit ⟨Nat.le_of_ble_eq_true rfl, Nat.le_of_ble_eq_true rfl⟩ dJ7_copyOfRangeByte_39247_27 ?_
  show Y X S K A 1 (0 + l.length) [sbD K b v c (lsF l), [(q, .inl (K.1 0, l.length, .inl (va_cpy (lsF l) (fun _ => 0) (0 : Int32).toNatClampNeg (0 : Int32).toNatClampNeg (nI l.length).toNatClampNeg)))]] 30 [(4, .ref q), (3, .int (nI l.length)), (0, .ref v), (1, .int 0), (2, .int (nI l.length))] []
  rw [ls_cpy (by omega)]
  refine Y_aload hX dJ7_copyOfRangeByte_39247_30 0 rfl ?_
  refine Y_wd (kc' := 1) (kn' := 16) (Nat.le_of_ble_eq_true rfl) (by omega) ?_
  exact hR (fun _ => q) _ _ dJ7_copyOfRangeByte_39247_32
abbrev rmY_J7_copyOfRange_39247 : Room := { frames := 2, cells := 1, slots := 16, locals := 104 }
set_option maxHeartbeats 4000000 in
theorem cY_J7_copyOfRange_39247 {S : Sx} {K : Kx} {E : Ex} (hE : Stb E) (hF : ∀ (A : Nat → Prop) (s : State), E A s → KF S K A s s.heap) (b v : Nat) (c : Int32) (l : List Int32) (hl : l.length < 16) (hfit : ∀ i : Nat, fits .byte (.int (l.getD i 0)) = true) : CY S K E yJ7_copyOfRange_39247 cJ7_copyOfRange_39247 3 (some (.array .byte)) rmY_J7_copyOfRange_39247 [.ref v, .int 0, .int (nI l.length)] ([sbD K b v c (lsF l)]) (QYq S ([sbD K b v c (lsF l)]) (fun u => some (u 0)) (fun u => [sbD K b v c (lsF l), [((u 0), .inl (K.1 0, l.length, .inl (lsF l)))]])) 1 16 := by
  refine y_metq (own := RJ7) (.inr ⟨_, rfl⟩) (by decide +kernel) rfl (Nat.le_of_ble_eq_true rfl) hE (fun X A hX hE2 hI hR => ?_)
  show Y X S K A 0 0 [sbD K b v c (lsF l)] 0 [(0, .ref v), (1, .int 0), (2, .int (nI l.length))] []
  refine Y_iload_n hX dJ7_copyOfRange_39247_0 1 rfl ?_
  refine Y_if_ne (tgt := 10) hX dJ7_copyOfRange_39247_1 (by decide) (fun z => absurd (show (0 : Int32) = 0 from rfl) z) (fun _ => ?_)
  refine Y_iload_n hX dJ7_copyOfRange_39247_4 2 rfl ?_
  refine Y_aload_n hX dJ7_copyOfRange_39247_5 0 rfl ?_
  refine Y_alen (t0 := 4) (v := 16) 0 1 hX rfl rfl rfl rfl dJ7_copyOfRange_39247_6 ?_
  refine Y_icmp_eq (tgt := 17) hX dJ7_copyOfRange_39247_7 (by decide) (fun z => absurd z (ne16 _ hl)) (fun _ => ?_)
  refine Y_aload_n hX dJ7_copyOfRange_39247_10 0 rfl ?_
  refine Y_iload_n hX dJ7_copyOfRange_39247_11 1 rfl ?_
  refine Y_iload_n hX dJ7_copyOfRange_39247_12 2 rfl ?_
  refine Y_resq hX (sub := [sbD K b v c (lsF l)]) (rst := []) rfl (Y_runS (As := [.ref v, .int 0, .int (nI l.length)]) (rest := []) hX hE2 mk_J7_339 nkY_J7_copyOfRangeByte_39247 hE (cY_J7_copyOfRangeByte_39247 hE hF b v c l hl hfit) rfl Ecall.same ⟨rfl, rfl⟩ ⟨Nat.le_of_ble_eq_true rfl, Nat.le_of_ble_eq_true rfl⟩ rfl rfl (Nat.le_of_ble_eq_true rfl) dJ7_copyOfRange_39247_13 ⟨Nat.le_of_ble_eq_true rfl, Nat.le_of_ble_eq_true rfl⟩) (fun u13 => ?_)
  show Y X S K A 1 16 [sbD K b v c (lsF l), [((u13 0), .inl (K.1 0, l.length, .inl (lsF l)))]] 16 [(0, .ref v), (1, .int 0), (2, .int (nI l.length))] [.ref (u13 0)]
  exact hR u13 _ _ dJ7_copyOfRange_39247_16
abbrev rmY_J0_init_db425 : Room := { frames := 3, cells := 1, slots := 16, locals := 126 }
set_option maxHeartbeats 4000000 in
theorem cY_J0_init_db425 {S : Sx} {K : Kx} {E : Ex} (hE : Stb E) (hF : ∀ (A : Nat → Prop) (s : State), E A s → KF S K A s s.heap) (q : Nat) (b v : Nat) (l : List Int32) (hl : l.length < 16) (hfit : ∀ i : Nat, fits .byte (.int (l.getD i 0)) = true) : CY S K E yJ0_init_db425 cJ0_init_db425 5 none rmY_J0_init_db425 [.ref q, .ref b, .null] ([[(q, .inr (0, [.null, .int 0, .int 0, .int 0]))], sbD K b v (nI l.length) (lsF l)]) (QYv S ([[(q, .inr (0, [.null, .int 0, .int 0, .int 0]))], sbD K b v (nI l.length) (lsF l)]) (fun u => [stD K q (u 0) l, sbD K b v (nI l.length) (lsF l)])) 1 16 := by
  refine y_metv (own := RJ0) (by decide +kernel) rfl (Nat.le_of_ble_eq_true rfl) hE (fun X A hX hE2 hI hR => ?_)
  show Y X S K A 0 0 [[(q, .inr (0, [.null, .int 0, .int 0, .int 0]))], sbD K b v (nI l.length) (lsF l)] 0 [(0, .ref q), (1, .ref b), (2, .null)] []
  refine Y_aload_n hX dJ0_init_db425_0 0 rfl ?_
  refine Y_objInit hX ob_J0_1 ⟨Nat.le_of_ble_eq_true rfl, Nat.le_of_ble_eq_true rfl⟩ dJ0_init_db425_1 ?_
  refine Y_aload_n hX dJ0_init_db425_4 1 rfl ?_
  refine Y_pick [1, 0] (by decide) rfl ?_
  show Y X S K A 0 0 [sbD K b v (nI l.length) (lsF l), [(q, .inr (0, [.null, .int 0, .int 0, .int 0]))]] 5 [(0, .ref q), (1, .ref b), (2, .null)] [.ref b]
  refine Y_resq hX (sub := [sbD K b v (nI l.length) (lsF l)]) (rst := [[(q, .inr (0, [.null, .int 0, .int 0, .int 0]))]]) rfl (Y_runU (b := 0) (i := 0) (As := []) (rest := []) hX hE2 mu_J0_552 (fun _ _ => trivial) hE (cY_J5_getValue_6d5f1 hE hF b v (nI l.length) (lsF l)) rfl Ecall.same rfl rfl rfl ⟨rfl, rfl⟩ ⟨Nat.le_of_ble_eq_true rfl, Nat.le_of_ble_eq_true rfl⟩ rfl rfl (Nat.le_of_ble_eq_true rfl) dJ0_init_db425_5 ⟨Nat.le_of_ble_eq_true rfl, Nat.le_of_ble_eq_true rfl⟩) (fun u5 => ?_)
  show Y X S K A 0 0 [sbD K b v (nI l.length) (lsF l), [(q, .inr (0, [.null, .int 0, .int 0, .int 0]))]] 8 [(0, .ref q), (1, .ref b), (2, .null)] [.ref v]
  refine Y_astore_n (lv' := [(3, .ref v), (0, .ref q), (1, .ref b), (2, .null)]) hX dJ0_init_db425_8 (by decide) rfl ?_
  refine Y_aload_n hX dJ0_init_db425_9 2 rfl ?_
  refine Y_resi hX (sub := [sbD K b v (nI l.length) (lsF l)]) (rst := [[(q, .inr (0, [.null, .int 0, .int 0, .int 0]))]]) rfl (Y_runU (b := 0) (i := 0) (As := []) (rest := []) hX hE2 mu_J0_549 (fun _ _ => trivial) hE (cY_J4_length_8abf5 hE hF b v (nI l.length) (lsF l)) rfl Ecall.same rfl rfl rfl ⟨rfl, rfl⟩ ⟨Nat.le_of_ble_eq_true rfl, Nat.le_of_ble_eq_true rfl⟩ rfl rfl (Nat.le_of_ble_eq_true rfl) dJ0_init_db425_10 ⟨Nat.le_of_ble_eq_true rfl, Nat.le_of_ble_eq_true rfl⟩) (fun u10 => ?_)
  show Y X S K A 0 0 [sbD K b v (nI l.length) (lsF l), [(q, .inr (0, [.null, .int 0, .int 0, .int 0]))]] 13 [(3, .ref v), (0, .ref q), (1, .ref b), (2, .null)] [.int (nI l.length)]
  refine Y_istore (lv' := [(4, .int (nI l.length)), (3, .ref v), (0, .ref q), (1, .ref b), (2, .null)]) hX dJ0_init_db425_13 (by decide) rfl ?_
  refine Y_aload_n hX dJ0_init_db425_15 3 rfl ?_
  refine Y_resi hX (sub := [sbD K b v (nI l.length) (lsF l)]) (rst := [[(q, .inr (0, [.null, .int 0, .int 0, .int 0]))]]) rfl (Y_runU (b := 0) (i := 0) (As := []) (rest := []) hX hE2 mu_J0_1047 (fun _ _ => trivial) hE (cY_J5_isLatin1_aae02 hE hF b v (nI l.length) (lsF l)) rfl Ecall.same rfl rfl rfl ⟨rfl, rfl⟩ ⟨Nat.le_of_ble_eq_true rfl, Nat.le_of_ble_eq_true rfl⟩ rfl rfl (Nat.le_of_ble_eq_true rfl) dJ0_init_db425_16 ⟨Nat.le_of_ble_eq_true rfl, Nat.le_of_ble_eq_true rfl⟩) (fun u16 => ?_)
  show Y X S K A 0 0 [sbD K b v (nI l.length) (lsF l), [(q, .inr (0, [.null, .int 0, .int 0, .int 0]))]] 19 [(4, .int (nI l.length)), (3, .ref v), (0, .ref q), (1, .ref b), (2, .null)] [.int 1]
  refine Y_if_eq (tgt := 41) hX dJ0_init_db425_19 (by decide) (fun z => absurd z (show ¬ (1 : Int32) = 0 by decide)) (fun _ => ?_)
  refine Y_aload_n hX dJ0_init_db425_22 2 rfl ?_
  refine Y_iconst (v := 0) hX dJ0_init_db425_23 (by decide) ?_
  refine Y_putF 1 0 hX hI rfl ff_J0_15 rfl rfl ⟨rfl, rfl, Nat.le_of_ble_eq_true rfl⟩ dJ0_init_db425_24 ?_
  show Y X S K A 0 0 [sbD K b v (nI l.length) (lsF l), [(q, .inr (0, [.null, .int 0, .int 0, .int 0]))]] 27 [(4, .int (nI l.length)), (3, .ref v), (0, .ref q), (1, .ref b), (2, .null)] []
  refine Y_aload_n hX dJ0_init_db425_27 2 rfl ?_
  refine Y_aload_n hX dJ0_init_db425_28 1 rfl ?_
  refine Y_iconst (v := 0) hX dJ0_init_db425_29 (by decide) ?_
  refine Y_iload hX dJ0_init_db425_30 0 rfl ?_
  refine Y_resq hX (sub := [sbD K b v (nI l.length) (lsF l)]) (rst := [[(q, .inr (0, [.null, .int 0, .int 0, .int 0]))]]) rfl (Y_runS (As := [.ref v, .int 0, .int (nI l.length)]) (rest := [.ref q]) hX hE2 mk_J0_54 nkY_J7_copyOfRange_39247 hE (cY_J7_copyOfRange_39247 hE hF b v (nI l.length) l hl hfit) rfl Ecall.same ⟨rfl, rfl⟩ ⟨Nat.le_of_ble_eq_true rfl, Nat.le_of_ble_eq_true rfl⟩ rfl rfl (Nat.le_of_ble_eq_true rfl) dJ0_init_db425_32 ⟨Nat.le_of_ble_eq_true rfl, Nat.le_of_ble_eq_true rfl⟩) (fun u32 => ?_)
  show Y X S K A 1 16 [sbD K b v (nI l.length) (lsF l), [((u32 0), .inl (K.1 0, l.length, .inl (lsF l)))], [(q, .inr (0, [.null, .int 0, .int 0, .int 0]))]] 35 [(4, .int (nI l.length)), (3, .ref v), (0, .ref q), (1, .ref b), (2, .null)] [.ref (u32 0), .ref q]
  refine Y_putF 2 0 hX hI rfl ff_J0_9 rfl rfl ⟨rfl, rfl, Nat.le_of_ble_eq_true rfl⟩ dJ0_init_db425_35 ?_
  show Y X S K A 1 16 [sbD K b v (nI l.length) (lsF l), [((u32 0), .inl (K.1 0, l.length, .inl (lsF l)))], [(q, .inr (0, [.ref (u32 0), .int 0, .int 0, .int 0]))]] 38 [(4, .int (nI l.length)), (3, .ref v), (0, .ref q), (1, .ref b), (2, .null)] []
  refine Y_goto (tgt := 97) hX dJ0_init_db425_38 (by decide) ?_
  refine Y_pick [2, 1, 0] (by decide) rfl ?_
  refine Y_fl (bl' := [stD K q (u32 0) l, sbD K b v (nI l.length) (lsF l)]) rfl ?_
  exact hR u32 _ _ dJ0_init_db425_97
abbrev rmY_J0_init_81219 : Room := { frames := 4, cells := 1, slots := 16, locals := 150 }
set_option maxHeartbeats 4000000 in
theorem cY_J0_init_81219 {S : Sx} {K : Kx} {E : Ex} (hE : Stb E) (hF : ∀ (A : Nat → Prop) (s : State), E A s → KF S K A s s.heap) (q : Nat) (b v : Nat) (l : List Int32) (hl : l.length < 16) (hfit : ∀ i : Nat, fits .byte (.int (l.getD i 0)) = true) : CY S K E yJ0_init_81219 cJ0_init_81219 2 none rmY_J0_init_81219 [.ref q, .ref b] ([[(q, .inr (0, [.null, .int 0, .int 0, .int 0]))], sbD K b v (nI l.length) (lsF l)]) (QYv S ([[(q, .inr (0, [.null, .int 0, .int 0, .int 0]))], sbD K b v (nI l.length) (lsF l)]) (fun u => [stD K q (u 0) l, sbD K b v (nI l.length) (lsF l)])) 1 16 := by
  refine y_metv (own := RJ0) (by decide +kernel) rfl (Nat.le_of_ble_eq_true rfl) hE (fun X A hX hE2 hI hR => ?_)
  show Y X S K A 0 0 [[(q, .inr (0, [.null, .int 0, .int 0, .int 0]))], sbD K b v (nI l.length) (lsF l)] 0 [(0, .ref q), (1, .ref b)] []
  refine Y_aload_n hX dJ0_init_81219_0 0 rfl ?_
  refine Y_aload_n hX dJ0_init_81219_1 1 rfl ?_
  refine Y_null hX dJ0_init_81219_2 ?_
  refine Y_resv hX (sub := [[(q, .inr (0, [.null, .int 0, .int 0, .int 0]))], sbD K b v (nI l.length) (lsF l)]) (rst := []) rfl (Y_runI (As := [.ref b, .null]) (rest := []) hX hE2 mk_J0_489 nkY_J0_init_db425 hE (cY_J0_init_db425 hE hF q b v l hl hfit) rfl Ecall.same ⟨rfl, rfl⟩ ⟨Nat.le_of_ble_eq_true rfl, Nat.le_of_ble_eq_true rfl⟩ rfl rfl (Nat.le_of_ble_eq_true rfl) dJ0_init_81219_3 ⟨Nat.le_of_ble_eq_true rfl, Nat.le_of_ble_eq_true rfl⟩) (fun u3 => ?_)
  show Y X S K A 1 16 [stD K q (u3 0) l, sbD K b v (nI l.length) (lsF l)] 6 [(0, .ref q), (1, .ref b)] []
  exact hR u3 _ _ dJ0_init_81219_6
abbrev rmY_J4_toString_0e30d : Room := { frames := 5, cells := 2, slots := 20, locals := 171 }
set_option maxHeartbeats 4000000 in
theorem cY_J4_toString_0e30d {S : Sx} {K : Kx} {E : Ex} (hE : Stb E) (hF : ∀ (A : Nat → Prop) (s : State), E A s → KF S K A s s.heap) (b v : Nat) (l : List Int32) (hl : l.length < 16) (hfit : ∀ i : Nat, fits .byte (.int (l.getD i 0)) = true) : CY S K E yJ4_toString_0e30d cJ4_toString_0e30d 1 (some (.object "java/lang/String")) rmY_J4_toString_0e30d [.ref b] ([sbD K b v (nI l.length) (lsF l)]) (QYq S ([sbD K b v (nI l.length) (lsF l)]) (fun u => some (u 0)) (fun u => [sbD K b v (nI l.length) (lsF l), stD K (u 0) (u 1) l])) 2 20 := by
  refine y_metq (own := RJ4) (.inl ⟨_, rfl⟩) (by decide +kernel) rfl (Nat.le_of_ble_eq_true rfl) hE (fun X A hX hE2 hI hR => ?_)
  show Y X S K A 0 0 [sbD K b v (nI l.length) (lsF l)] 0 [(0, .ref b)] []
  refine Y_new hX nw_J4_18 ⟨Nat.le_of_ble_eq_true rfl, Nat.le_of_ble_eq_true rfl⟩ dJ4_toString_0e30d_0 (fun q => ?_)
  show Y X S K A 1 4 [sbD K b v (nI l.length) (lsF l), [(q, .inr (0, [.null, .int 0, .int 0, .int 0]))]] 3 [(0, .ref b)] [.ref q]
  refine Y_dup hX dJ4_toString_0e30d_3 rfl ?_
  refine Y_aload_n hX dJ4_toString_0e30d_4 0 rfl ?_
  refine Y_pick [1, 0] (by decide) rfl ?_
  show Y X S K A 1 4 [[(q, .inr (0, [.null, .int 0, .int 0, .int 0]))], sbD K b v (nI l.length) (lsF l)] 5 [(0, .ref b)] [.ref b, .ref q, .ref q]
  refine Y_resv hX (sub := [[(q, .inr (0, [.null, .int 0, .int 0, .int 0]))], sbD K b v (nI l.length) (lsF l)]) (rst := []) rfl (Y_runI (As := [.ref b]) (rest := [.ref q]) hX hE2 mk_J4_137 nkY_J0_init_81219 hE (cY_J0_init_81219 hE hF q b v l hl hfit) rfl Ecall.same ⟨rfl, rfl⟩ ⟨Nat.le_of_ble_eq_true rfl, Nat.le_of_ble_eq_true rfl⟩ rfl rfl (Nat.le_of_ble_eq_true rfl) dJ4_toString_0e30d_5 ⟨Nat.le_of_ble_eq_true rfl, Nat.le_of_ble_eq_true rfl⟩) (fun u5 => ?_)
  show Y X S K A 2 20 [stD K q (u5 0) l, sbD K b v (nI l.length) (lsF l)] 8 [(0, .ref b)] [.ref q]
  refine Y_pick [1, 0] (by decide) rfl ?_
  exact hR (ad4 q (u5 0) q q) _ _ dJ4_toString_0e30d_8
