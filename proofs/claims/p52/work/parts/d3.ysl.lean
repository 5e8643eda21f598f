-- ===== a list =====
def hdC (b el : Nat) (mod sz : Int32) : va_W := [(b, .inr (2, [.int mod, .ref el, .int sz]))]
def elF (es : List (Option Nat)) : Nat → Option Nat := fun k => es.getD k none
/-- its elements' array: none as long as nothing was put in -/
def arB (K : Kx) (el cap : Nat) (f : Nat → Option Nat) : va_W := if cap = 0 then [] else [(el, .inl (K.1 2, cap, .inr (.inr (.inr (.inr f)))))]
def capN (cap z : Nat) : Nat := if cap = 0 then 10 else if z = cap then 15 else cap
/-- what is put in lies in the towers kept -/
def Kept (ww : va_W) (f : Nat → Option Nat) : Prop := ∀ k y, f k = some y → ∃ (i : Nat) (vs : List Value), ww[i]? = some (y, .inr (13, vs))
theorem el_put {es : List (Option Nat)} {o : Option Nat} : va_up (elF es) es.length o = elF (es ++ [o]) := by
  funext j
  unfold va_up elF
  rw [List.getD_eq_getElem?_getD, List.getD_eq_getElem?_getD]
  by_cases c : j = es.length
  · rw [if_pos c, c, List.getElem?_append_right (Nat.le_refl _), Nat.sub_self]; rfl
  · rw [if_neg c]
    by_cases c2 : j < es.length
    · rw [List.getElem?_append_left c2]
    · rw [List.getElem?_eq_none (by omega), List.getElem?_eq_none (by rw [List.length_append]; show es.length + 1 ≤ j; omega)]
theorem el_out {es : List (Option Nat)} {k : Nat} (h : es.length ≤ k) : elF es k = none := by unfold elF; rw [List.getD_eq_getElem?_getD, List.getElem?_eq_none h]; rfl
theorem el_cpy {es : List (Option Nat)} (h : es.length ≤ 10) : va_cpy (elF es) (fun _ => none) (0 : Int32).toNatClampNeg (0 : Int32).toNatClampNeg (10 : Int32).toNatClampNeg = elF es := by
  rw [show (0 : Int32).toNatClampNeg = 0 from rfl, show (10 : Int32).toNatClampNeg = 10 from rfl]
  funext j
  by_cases c : j < 10
  · rw [pk_cpy_in (Nat.zero_le _) (by omega), Nat.sub_zero, Nat.zero_add]
  · rw [pk_cpy_out (.inr (by omega)), el_out (by omega)]
theorem el_cut {es : List (Option Nat)} {i m : Nat} (hm : es.length = m + 1) (hi : i ≤ m) (h2 : m + 1 < 2 ^ 31) : va_up (va_cpy (elF es) (elF es) (nI (i + 1)).toNatClampNeg (nI i).toNatClampNeg (nI (m - i)).toNatClampNeg) m none = elF (es.eraseIdx i) := by
  rw [nI_clamp (by omega), nI_clamp (by omega), nI_clamp (by omega)]
  funext j
  unfold va_up
  have e : elF (es.eraseIdx i) j = if j < i then elF es j else elF es (j + 1) := by
    unfold elF
    rw [List.getD_eq_getElem?_getD, List.getElem?_eraseIdx]
    by_cases c : j < i
    · rw [if_pos c, if_pos c, List.getD_eq_getElem?_getD]
    · rw [if_neg c, if_neg c, List.getD_eq_getElem?_getD]
  rw [e]
  by_cases c : j = m
  · rw [if_pos c, if_neg (by omega), el_out (by omega)]
  · rw [if_neg c]
    by_cases c2 : j < i
    · rw [if_pos c2, pk_cpy_out (.inl c2)]
    · rw [if_neg c2]
      by_cases c3 : j < m
      · rw [pk_cpy_in (by omega) (by omega), show i + 1 + (j - i) = j + 1 by omega]
      · rw [pk_cpy_out (.inr (by omega)), el_out (by omega), el_out (by omega)]
theorem el_last {es : List (Option Nat)} {m : Nat} (hm : es.length = m + 1) : va_up (elF es) m none = elF (es.eraseIdx m) := by
  funext j
  unfold va_up
  have e : elF (es.eraseIdx m) j = if j < m then elF es j else elF es (j + 1) := by
    unfold elF
    rw [List.getD_eq_getElem?_getD, List.getElem?_eraseIdx]
    by_cases c : j < m
    · rw [if_pos c, if_pos c, List.getD_eq_getElem?_getD]
    · rw [if_neg c, if_neg c, List.getD_eq_getElem?_getD]
  rw [e]
  by_cases c : j = m
  · rw [if_pos c, if_neg (by omega), el_out (by omega)]
  · rw [if_neg c]
    by_cases c2 : j < m
    · rw [if_pos c2]
    · rw [if_neg c2, el_out (by omega), el_out (by omega)]
def emI (z : Nat) : Int32 := if z = 0 then 1 else 0
theorem Kept.at {ww : va_W} {f : Nat → Option Nat} (h : Kept ww f) {bl : Bk} {p : Nat} (hb : bl[p]? = some ww) : ∀ k y, f k = some y → ∃ (b i : Nat) (ws : va_W) (vs : List Value), bl[b]? = some ws ∧ ws[i]? = some (y, .inr (13, vs)) := fun k y e => by
  obtain ⟨i, vs, h1⟩ := h k y e
  exact ⟨p, i, ww, vs, hb, h1⟩
abbrev rmY_Jxa1e45_init_da8c8 : Room := { frames := 1, cells := 0, slots := 0, locals := 40 }
set_option maxHeartbeats 4000000 in
theorem cY_Jxa1e45_init_da8c8 {S : Sx} {K : Kx} {E : Ex} (hE : Stb E) (hF : ∀ (A : Nat → Prop) (s : State), E A s → KF S K A s s.heap) (b : Nat) : CY S K E yJxa1e45_init_da8c8 cJxa1e45_init_da8c8 1 none rmY_Jxa1e45_init_da8c8 [.ref b] ([[(b, .inr (2, [.int 0, .null, .int 0]))]]) (QYv S ([[(b, .inr (2, [.int 0, .null, .int 0]))]]) (fun _ => [[(b, .inr (2, [.int 0, .null, .int 0]))]])) 0 0 := by
  refine y_metv (own := RJxa1e45) (by decide +kernel) rfl (Nat.le_of_ble_eq_true rfl) hE (fun X A hX hE2 hI hR => ?_)
  show Y X S K A 0 0 [[(b, .inr (2, [.int 0, .null, .int 0]))]] 0 [(0, .ref b)] []
  refine Y_aload_n hX dJxa1e45_init_da8c8_0 0 rfl ?_
  refine Y_objInit hX ob_Jxa1e45_1 ⟨Nat.le_of_ble_eq_true rfl, Nat.le_of_ble_eq_true rfl⟩ dJxa1e45_init_da8c8_1 ?_
  exact hR (fun _ => 0) _ _ dJxa1e45_init_da8c8_4
abbrev rmY_Jxc12de_init_da8c8 : Room := { frames := 2, cells := 0, slots := 0, locals := 60 }
set_option maxHeartbeats 4000000 in
theorem cY_Jxc12de_init_da8c8 {S : Sx} {K : Kx} {E : Ex} (hE : Stb E) (hF : ∀ (A : Nat → Prop) (s : State), E A s → KF S K A s s.heap) (b : Nat) : CY S K E yJxc12de_init_da8c8 cJxc12de_init_da8c8 1 none rmY_Jxc12de_init_da8c8 [.ref b] ([[(b, .inr (2, [.int 0, .null, .int 0]))]]) (QYv S ([[(b, .inr (2, [.int 0, .null, .int 0]))]]) (fun _ => [[(b, .inr (2, [.int 0, .null, .int 0]))]])) 0 0 := by
  refine y_metv (own := RJxc12de) (by decide +kernel) rfl (Nat.le_of_ble_eq_true rfl) hE (fun X A hX hE2 hI hR => ?_)
  show Y X S K A 0 0 [[(b, .inr (2, [.int 0, .null, .int 0]))]] 0 [(0, .ref b)] []
  refine Y_aload_n hX dJxc12de_init_da8c8_0 0 rfl ?_
  refine Y_resv hX (sub := [[(b, .inr (2, [.int 0, .null, .int 0]))]]) (rst := []) rfl (Y_runI (As := []) (rest := []) hX hE2 mk_Jxc12de_1 nkY_Jxa1e45_init_da8c8 hE (cY_Jxa1e45_init_da8c8 hE hF b) rfl Ecall.same ⟨rfl, rfl⟩ ⟨Nat.le_of_ble_eq_true rfl, Nat.le_of_ble_eq_true rfl⟩ rfl rfl (Nat.le_of_ble_eq_true rfl) dJxc12de_init_da8c8_1 ⟨Nat.le_of_ble_eq_true rfl, Nat.le_of_ble_eq_true rfl⟩) (fun u1 => ?_)
  show Y X S K A 0 0 [[(b, .inr (2, [.int 0, .null, .int 0]))]] 4 [(0, .ref b)] []
  refine Y_aload_n hX dJxc12de_init_da8c8_4 0 rfl ?_
  refine Y_iconst (v := 0) hX dJxc12de_init_da8c8_5 (by decide) ?_
  refine Y_put 0 0 hX fw_Jxc12de_7 rfl rfl ⟨rfl, rfl, Nat.le_of_ble_eq_true rfl⟩ dJxc12de_init_da8c8_6 ?_
  show Y X S K A 0 0 [[(b, .inr (2, [.int 0, .null, .int 0]))]] 9 [(0, .ref b)] []
  exact hR (fun _ => 0) _ _ dJxc12de_init_da8c8_9
abbrev rmY_Jx4a65c_init_da8c8 : Room := { frames := 3, cells := 0, slots := 0, locals := 80 }
set_option maxHeartbeats 4000000 in
theorem cY_Jx4a65c_init_da8c8 {S : Sx} {K : Kx} {E : Ex} (hE : Stb E) (hF : ∀ (A : Nat → Prop) (s : State), E A s → KF S K A s s.heap) (b : Nat) : CY S K E yJx4a65c_init_da8c8 cJx4a65c_init_da8c8 1 none rmY_Jx4a65c_init_da8c8 [.ref b] ([[(b, .inr (2, [.int 0, .null, .int 0]))]]) (QYv S ([[(b, .inr (2, [.int 0, .null, .int 0]))]]) (fun _ => [hdC b (K.2 3) 0 0])) 0 0 := by
  refine y_metv (own := RJx4a65c) (by decide +kernel) rfl (Nat.le_of_ble_eq_true rfl) hE (fun X A hX hE2 hI hR => ?_)
  show Y X S K A 0 0 [[(b, .inr (2, [.int 0, .null, .int 0]))]] 0 [(0, .ref b)] []
  refine Y_aload_n hX dJx4a65c_init_da8c8_0 0 rfl ?_
  refine Y_resv hX (sub := [[(b, .inr (2, [.int 0, .null, .int 0]))]]) (rst := []) rfl (Y_runI (As := []) (rest := []) hX hE2 mk_Jx4a65c_1 nkY_Jxc12de_init_da8c8 hE (cY_Jxc12de_init_da8c8 hE hF b) rfl Ecall.same ⟨rfl, rfl⟩ ⟨Nat.le_of_ble_eq_true rfl, Nat.le_of_ble_eq_true rfl⟩ rfl rfl (Nat.le_of_ble_eq_true rfl) dJx4a65c_init_da8c8_1 ⟨Nat.le_of_ble_eq_true rfl, Nat.le_of_ble_eq_true rfl⟩) (fun u1 => ?_)
  show Y X S K A 0 0 [[(b, .inr (2, [.int 0, .null, .int 0]))]] 4 [(0, .ref b)] []
  refine Y_aload_n hX dJx4a65c_init_da8c8_4 0 rfl ?_
  refine Y_gets (v := .ref (K.2 3)) hX hE2 (fun s h => (hF A s h).2.2.2.2.2.2.2.2.2.2.1) fk_Jx4a65c_39 dJx4a65c_init_da8c8_5 ?_
  refine Y_put 0 0 hX fw_Jx4a65c_9 rfl rfl ⟨rfl, rfl, Nat.le_of_ble_eq_true rfl⟩ dJx4a65c_init_da8c8_8 ?_
  show Y X S K A 0 0 [[(b, .inr (2, [.int 0, .ref (K.2 3), .int 0]))]] 11 [(0, .ref b)] []
  exact hR (fun _ => 0) _ _ dJx4a65c_init_da8c8_11
abbrev rmY_Jx4a65c_size_8abf5 : Room := { frames := 0, cells := 0, slots := 0, locals := 0 }
set_option maxHeartbeats 4000000 in
theorem cY_Jx4a65c_size_8abf5 {S : Sx} {K : Kx} {E : Ex} (hE : Stb E) (hF : ∀ (A : Nat → Prop) (s : State), E A s → KF S K A s s.heap) (b el : Nat) (mod : Int32) (z : Nat) : CY S K E yJx4a65c_size_8abf5 cJx4a65c_size_8abf5 1 (some .int) rmY_Jx4a65c_size_8abf5 [.ref b] ([hdC b el mod (nI z)]) (QYi S ([hdC b el mod (nI z)]) (nI z) (fun _ => [hdC b el mod (nI z)])) 0 0 := by
  refine y_meti (own := RJx4a65c) (by decide +kernel) rfl (Nat.le_of_ble_eq_true rfl) hE (fun X A hX hE2 hI hR => ?_)
  show Y X S K A 0 0 [hdC b el mod (nI z)] 0 [(0, .ref b)] []
  refine Y_aload_n hX dJx4a65c_size_8abf5_0 0 rfl ?_
  refine Y_get 0 0 hX fk_Jx4a65c_48 rfl rfl rfl dJx4a65c_size_8abf5_1 ?_
  exact hR (fun _ => 0) _ _ rfl dJx4a65c_size_8abf5_4
abbrev rmY_Jx4a65c_isEmpty_aae02 : Room := { frames := 0, cells := 0, slots := 0, locals := 0 }
set_option maxHeartbeats 4000000 in
theorem cY_Jx4a65c_isEmpty_aae02 {S : Sx} {K : Kx} {E : Ex} (hE : Stb E) (hF : ∀ (A : Nat → Prop) (s : State), E A s → KF S K A s s.heap) (b el : Nat) (mod : Int32) (z : Nat) (hz : z < 2 ^ 31) : CY S K E yJx4a65c_isEmpty_aae02 cJx4a65c_isEmpty_aae02 1 (some .boolean) rmY_Jx4a65c_isEmpty_aae02 [.ref b] ([hdC b el mod (nI z)]) (QYi S ([hdC b el mod (nI z)]) (emI z) (fun _ => [hdC b el mod (nI z)])) 0 0 := by
  refine y_meti (own := RJx4a65c) (by decide +kernel) rfl (Nat.le_of_ble_eq_true rfl) hE (fun X A hX hE2 hI hR => ?_)
  show Y X S K A 0 0 [hdC b el mod (nI z)] 0 [(0, .ref b)] []
  refine Y_aload_n hX dJx4a65c_isEmpty_aae02_0 0 rfl ?_
  refine Y_get 0 0 hX fk_Jx4a65c_48 rfl rfl rfl dJx4a65c_isEmpty_aae02_1 ?_
  refine Y_if_ne (tgt := 11) hX dJx4a65c_isEmpty_aae02_4 (by decide) (fun h4 => ?_) (fun h4 => ?_)
  · refine Y_iconst (v := 0) hX dJx4a65c_isEmpty_aae02_11 (by decide) ?_
    refine Y_eqi (x' := emI z) (by unfold emI; rw [if_neg (fun e => h4 (by rw [e]; rfl))]) ?_
    exact hR (fun _ => 0) _ _ (nar_z (by unfold emI; split <;> rfl)) dJx4a65c_isEmpty_aae02_12
  · refine Y_iconst (v := 1) hX dJx4a65c_isEmpty_aae02_7 (by decide) ?_
    refine Y_goto (tgt := 12) hX dJx4a65c_isEmpty_aae02_8 (by decide) ?_
    refine Y_eqi (x' := emI z) (by unfold emI; rw [if_pos (show z = 0 from by have := (nI_eq hz (by decide)).mp (show nI z = nI 0 from h4); exact this)]) ?_
    exact hR (fun _ => 0) _ _ (nar_z (by unfold emI; split <;> rfl)) dJx4a65c_isEmpty_aae02_12
abbrev rmY_Jx4a65c_elementData_915e3 : Room := { frames := 0, cells := 0, slots := 0, locals := 0 }
set_option maxHeartbeats 4000000 in
theorem cY_Jx4a65c_elementData_915e3 {S : Sx} {K : Kx} {E : Ex} (hE : Stb E) (hF : ∀ (A : Nat → Prop) (s : State), E A s → KF S K A s s.heap) (b el cap : Nat) (mod : Int32) (z : Nat) (f : Nat → Option Nat) (i : Nat) (hi : i < cap) (hc : cap < 2 ^ 31) : CY S K E yJx4a65c_elementData_915e3 cJx4a65c_elementData_915e3 2 (some (.object "java/lang/Object")) rmY_Jx4a65c_elementData_915e3 [.ref b, .int (nI i)] ([hdC b el mod (nI z), [(el, .inl (K.1 2, cap, .inr (.inr (.inr (.inr f)))))]]) (QYq S ([hdC b el mod (nI z), [(el, .inl (K.1 2, cap, .inr (.inr (.inr (.inr f)))))]]) (fun _ => f i) (fun _ => [hdC b el mod (nI z), [(el, .inl (K.1 2, cap, .inr (.inr (.inr (.inr f)))))]])) 0 0 := by
  refine y_metq (own := RJx4a65c) (.inl ⟨_, rfl⟩) (by decide +kernel) rfl (Nat.le_of_ble_eq_true rfl) hE (fun X A hX hE2 hI hR => ?_)
  show Y X S K A 0 0 [hdC b el mod (nI z), [(el, .inl (K.1 2, cap, .inr (.inr (.inr (.inr f)))))]] 0 [(0, .ref b), (1, .int (nI i))] []
  refine Y_aload_n hX dJx4a65c_elementData_915e3_0 0 rfl ?_
  refine Y_get 0 0 hX fk_Jx4a65c_9 rfl rfl rfl dJx4a65c_elementData_915e3_1 ?_
  refine Y_iload_n hX dJx4a65c_elementData_915e3_4 1 rfl ?_
  refine Y_aaldO (v := f i) 1 0 hX rfl rfl (vp_in_nI (by omega) (by omega)) (by rw [nI_clamp (by omega)]) dJx4a65c_elementData_915e3_5 ?_
  exact hR (fun _ => 0) _ _ dJx4a65c_elementData_915e3_6
abbrev rmY_Jx4a65c_get_915e3 : Room := { frames := 2, cells := 0, slots := 0, locals := 43 }
set_option maxHeartbeats 4000000 in
theorem cY_Jx4a65c_get_915e3 {S : Sx} {K : Kx} {E : Ex} (hE : Stb E) (hF : ∀ (A : Nat → Prop) (s : State), E A s → KF S K A s s.heap) (b el cap : Nat) (mod : Int32) (z : Nat) (f : Nat → Option Nat) (i : Nat) (hi : i < z) (hz : z ≤ cap) (hc : cap < 2 ^ 31) : CY S K E yJx4a65c_get_915e3 cJx4a65c_get_915e3 2 (some (.object "java/lang/Object")) rmY_Jx4a65c_get_915e3 [.ref b, .int (nI i)] ([hdC b el mod (nI z), [(el, .inl (K.1 2, cap, .inr (.inr (.inr (.inr f)))))]]) (QYq S ([hdC b el mod (nI z), [(el, .inl (K.1 2, cap, .inr (.inr (.inr (.inr f)))))]]) (fun _ => f i) (fun _ => [hdC b el mod (nI z), [(el, .inl (K.1 2, cap, .inr (.inr (.inr (.inr f)))))]])) 0 0 := by
  refine y_metq (own := RJx4a65c) (.inl ⟨_, rfl⟩) (by decide +kernel) rfl (Nat.le_of_ble_eq_true rfl) hE (fun X A hX hE2 hI hR => ?_)
  show Y X S K A 0 0 [hdC b el mod (nI z), [(el, .inl (K.1 2, cap, .inr (.inr (.inr (.inr f)))))]] 0 [(0, .ref b), (1, .int (nI i))] []
  refine Y_iload_n hX dJx4a65c_get_915e3_0 1 rfl ?_
  refine Y_aload_n hX dJx4a65c_get_915e3_1 0 rfl ?_
  refine Y_get 0 0 hX fk_Jx4a65c_48 rfl rfl rfl dJx4a65c_get_915e3_2 ?_
  refine Y_resi hX (sub := []) (rst := [hdC b el mod (nI z), [(el, .inl (K.1 2, cap, .inr (.inr (.inr (.inr f)))))]]) rfl (Y_runS (As := [.int (nI i), .int (nI z)]) (rest := []) hX hE2 mk_Jx4a65c_118 nkY_J15_checkIndex_7cf53 hE (cY_J15_checkIndex_7cf53 hE hF i z hi (by omega)) rfl Ecall.same ⟨rfl, rfl⟩ ⟨Nat.le_of_ble_eq_true rfl, Nat.le_of_ble_eq_true rfl⟩ rfl rfl (Nat.le_of_ble_eq_true rfl) dJx4a65c_get_915e3_5 ⟨Nat.le_of_ble_eq_true rfl, Nat.le_of_ble_eq_true rfl⟩) (fun u5 => ?_)
  show Y X S K A 0 0 [hdC b el mod (nI z), [(el, .inl (K.1 2, cap, .inr (.inr (.inr (.inr f)))))]] 8 [(0, .ref b), (1, .int (nI i))] [.int (nI i)]
  refine Y_pop hX dJx4a65c_get_915e3_8 rfl ?_
  refine Y_aload_n hX dJx4a65c_get_915e3_9 0 rfl ?_
  refine Y_iload_n hX dJx4a65c_get_915e3_10 1 rfl ?_
  refine Y_resq hX (sub := [hdC b el mod (nI z), [(el, .inl (K.1 2, cap, .inr (.inr (.inr (.inr f)))))]]) (rst := []) rfl (Y_runV (b := 0) (i := 0) (As := [.int (nI i)]) (rest := []) hX hE2 mk_Jx4a65c_123 nkY_Jx4a65c_elementData_915e3 hE (cY_Jx4a65c_elementData_915e3 hE hF b el cap mod z f i (by omega) hc) rfl Ecall.same rfl rfl rfl ⟨rfl, rfl⟩ ⟨Nat.le_of_ble_eq_true rfl, Nat.le_of_ble_eq_true rfl⟩ rfl rfl (Nat.le_of_ble_eq_true rfl) dJx4a65c_get_915e3_11 ⟨Nat.le_of_ble_eq_true rfl, Nat.le_of_ble_eq_true rfl⟩) (fun u11 => ?_)
  show Y X S K A 0 0 [hdC b el mod (nI z), [(el, .inl (K.1 2, cap, .inr (.inr (.inr (.inr f)))))]] 14 [(0, .ref b), (1, .int (nI i))] [va_rf (f i)]
  exact hR (fun _ => 0) _ _ dJx4a65c_get_915e3_14
abbrev rmY_J8_newLength_cabcc : Room := { frames := 1, cells := 0, slots := 0, locals := 40 }
set_option maxHeartbeats 4000000 in
theorem cY_J8_newLength_cabcc {S : Sx} {K : Kx} {E : Ex} (hE : Stb E) (hF : ∀ (A : Nat → Prop) (s : State), E A s → KF S K A s s.heap)  : CY S K E yJ8_newLength_cabcc cJ8_newLength_cabcc 4 (some .int) rmY_J8_newLength_cabcc [.int 10, .int 1, .int 5] ([]) (QYi S ([]) 15 (fun _ => [])) 0 0 := by
  refine y_meti (own := RJ8) (by decide +kernel) rfl (Nat.le_of_ble_eq_true rfl) hE (fun X A hX hE2 hI hR => ?_)
  show Y X S K A 0 0 [] 0 [(0, .int 10), (1, .int 1), (2, .int 5)] []
  refine Y_iload_n hX dJ8_newLength_cabcc_0 0 rfl ?_
  refine Y_iload_n hX dJ8_newLength_cabcc_1 1 rfl ?_
  refine Y_iload_n hX dJ8_newLength_cabcc_2 2 rfl ?_
  refine Y_max hX mk_J8_194 ⟨⟨Nat.le_of_ble_eq_true rfl, Nat.le_of_ble_eq_true rfl⟩, Nat.le_of_ble_eq_true rfl, Nat.le_of_ble_eq_true rfl⟩ dJ8_newLength_cabcc_3 ?_
  refine Y_eqi (x' := 5) ((by decide)) ?_
  refine Y_iadd hX dJ8_newLength_cabcc_6 ?_
  refine Y_eqi (x' := 15) ((by decide)) ?_
  refine Y_istore_n (lv' := [(3, .int 15), (0, .int 10), (1, .int 1), (2, .int 5)]) hX dJ8_newLength_cabcc_7 (by decide) rfl ?_
  refine Y_iconst (v := 0) hX dJ8_newLength_cabcc_8 (by decide) ?_
  refine Y_iload_n hX dJ8_newLength_cabcc_9 0 rfl ?_
  refine Y_icmp_ge (tgt := 21) hX dJ8_newLength_cabcc_10 (by decide) (fun z => absurd z (by decide)) (fun _ => ?_)
  refine Y_iload_n hX dJ8_newLength_cabcc_13 0 rfl ?_
  refine Y_ldc (v := 2147483639) hX dJ8_newLength_cabcc_14 cn_J8_200 ?_
  refine Y_icmp_gt (tgt := 21) hX dJ8_newLength_cabcc_16 (by decide) (fun z => absurd z (by decide)) (fun _ => ?_)
  refine Y_iload_n hX dJ8_newLength_cabcc_19 0 rfl ?_
  exact hR (fun _ => 0) _ _ rfl dJ8_newLength_cabcc_20
abbrev rmY_J7_copyOf_6403c : Room := { frames := 1, cells := 1, slots := 15, locals := 100 }
set_option maxHeartbeats 4000000 in
theorem cY_J7_copyOf_6403c {S : Sx} {K : Kx} {E : Ex} (hE : Stb E) (hF : ∀ (A : Nat → Prop) (s : State), E A s → KF S K A s s.heap) {mi : Nat} (hM : ∀ (A : Nat → Prop) (s : State), E A s → va_Mi oaN mi s ∧ va_Dc s) (el : Nat) (f : Nat → Option Nat) (ww : va_W) (hk : Kept ww f) : CY S K E yJ7_copyOf_6403c cJ7_copyOf_6403c 4 (some (.array (.object "java/lang/Object"))) rmY_J7_copyOf_6403c [.ref el, .int 15, .ref mi] ([[(el, .inl (K.1 2, 10, .inr (.inr (.inr (.inr f)))))], ww]) (QYq S ([[(el, .inl (K.1 2, 10, .inr (.inr (.inr (.inr f)))))], ww]) (fun u => some (u 0)) (fun u => [[(el, .inl (K.1 2, 10, .inr (.inr (.inr (.inr f)))))], [(u 0, .inl (K.1 2, 15, .inr (.inr (.inr (.inr (va_cpy f (fun _ => none) (0 : Int32).toNatClampNeg (0 : Int32).toNatClampNeg (10 : Int32).toNatClampNeg))))))], ww])) 1 15 := by
  refine y_metq (own := RJ7) (.inr ⟨_, rfl⟩) (by decide +kernel) rfl (Nat.le_of_ble_eq_true rfl) hE (fun X A hX hE2 hI hR => ?_)
  show Y X S K A 0 0 [[(el, .inl (K.1 2, 10, .inr (.inr (.inr (.inr f)))))], ww] 0 [(0, .ref el), (1, .int 15), (2, .ref mi)] []
  refine Y_aload_n hX dJ7_copyOf_6403c_0 2 rfl ?_
  refine Y_ldcM hX hE2 (fun s h => (hM A s h).1) lm_J7_110 dJ7_copyOf_6403c_1 ?_
  refine Y_acmp_ne (rx := (some mi)) (ry := (some mi)) (tgt := 13) hX dJ7_copyOf_6403c_3 (by decide) (fun z => absurd rfl z) (fun _ => ?_)
  refine Y_iload_n hX dJ7_copyOf_6403c_6 1 rfl ?_
  refine Y_newO (n := 15) hX cl_J7_2 ⟨by decide, by decide, Nat.le_of_ble_eq_true rfl⟩ ⟨Nat.le_of_ble_eq_true rfl, Nat.le_of_ble_eq_true rfl⟩ dJ7_copyOf_6403c_7 (fun q => ?_)
  show Y X S K A 1 15 [[(el, .inl (K.1 2, 10, .inr (.inr (.inr (.inr f)))))], ww, [(q, .inl (K.1 2, 15, .inr (.inr (.inr (.inr (fun _ => none))))))]] 10 [(0, .ref el), (1, .int 15), (2, .ref mi)] [.ref q]
  refine Y_goto (tgt := 24) hX dJ7_copyOf_6403c_10 (by decide) ?_
  refine Y_astore_n (lv' := [(3, .ref q), (0, .ref el), (1, .int 15), (2, .ref mi)]) hX dJ7_copyOf_6403c_24 (by decide) rfl ?_
  refine Y_aload_n hX dJ7_copyOf_6403c_25 1 rfl ?_
  refine Y_iconst (v := 0) hX dJ7_copyOf_6403c_26 (by decide) ?_
  refine Y_aload_n hX dJ7_copyOf_6403c_27 0 rfl ?_
  refine Y_iconst (v := 0) hX dJ7_copyOf_6403c_28 (by decide) ?_
  refine Y_aload_n hX dJ7_copyOf_6403c_29 1 rfl ?_
  refine Y_alen (t0 := 6) (v := 10) 0 0 hX rfl rfl rfl rfl dJ7_copyOf_6403c_30 ?_
  refine Y_iload_n hX dJ7_copyOf_6403c_31 2 rfl ?_
  refine Y_min hX mk_J7_304 ⟨⟨Nat.le_of_ble_eq_true rfl, Nat.le_of_ble_eq_true rfl⟩, Nat.le_of_ble_eq_true rfl, Nat.le_of_ble_eq_true rfl⟩ dJ7_copyOf_6403c_32 ?_
  refine Y_eqi (x' := 10) ((by decide)) ?_
  refine Y_copyO 0 0 2 0 hX mk_J7_150 rfl rfl rfl rfl ⟨by decide, by decide, by decide, by decide, by decide⟩ (hk.at (p := 1) rfl) ⟨Nat.le_of_ble_eq_true rfl, Nat.le_of_ble_eq_true rfl⟩ dJ7_copyOf_6403c_35 ?_
  show Y X S K A 1 15 [[(el, .inl (K.1 2, 10, .inr (.inr (.inr (.inr f)))))], ww, [(q, .inl (K.1 2, 15, .inr (.inr (.inr (.inr (va_cpy f (fun _ => none) (0 : Int32).toNatClampNeg (0 : Int32).toNatClampNeg (10 : Int32).toNatClampNeg))))))]] 38 [(3, .ref q), (0, .ref el), (1, .int 15), (2, .ref mi)] []
  refine Y_aload_n hX dJ7_copyOf_6403c_38 0 rfl ?_
  refine Y_pick [0, 2, 1] (by decide) rfl ?_
  exact hR (fun _ => q) _ _ dJ7_copyOf_6403c_39
abbrev rmY_J7_copyOf_1904c : Room := { frames := 2, cells := 1, slots := 15, locals := 123 }
set_option maxHeartbeats 4000000 in
theorem cY_J7_copyOf_1904c {S : Sx} {K : Kx} {E : Ex} (hE : Stb E) (hF : ∀ (A : Nat → Prop) (s : State), E A s → KF S K A s s.heap) {mi : Nat} (hM : ∀ (A : Nat → Prop) (s : State), E A s → va_Mi oaN mi s ∧ va_Dc s) (el : Nat) (f : Nat → Option Nat) (ww : va_W) (hk : Kept ww f) : CY S K E yJ7_copyOf_1904c cJ7_copyOf_1904c 2 (some (.array (.object "java/lang/Object"))) rmY_J7_copyOf_1904c [.ref el, .int 15] ([[(el, .inl (K.1 2, 10, .inr (.inr (.inr (.inr f)))))], ww]) (QYq S ([[(el, .inl (K.1 2, 10, .inr (.inr (.inr (.inr f)))))], ww]) (fun u => some (u 0)) (fun u => [[(el, .inl (K.1 2, 10, .inr (.inr (.inr (.inr f)))))], [(u 0, .inl (K.1 2, 15, .inr (.inr (.inr (.inr (va_cpy f (fun _ => none) (0 : Int32).toNatClampNeg (0 : Int32).toNatClampNeg (10 : Int32).toNatClampNeg))))))], ww])) 1 15 := by
  refine y_metq (own := RJ7) (.inr ⟨_, rfl⟩) (by decide +kernel) rfl (Nat.le_of_ble_eq_true rfl) hE (fun X A hX hE2 hI hR => ?_)
  show Y X S K A 0 0 [[(el, .inl (K.1 2, 10, .inr (.inr (.inr (.inr f)))))], ww] 0 [(0, .ref el), (1, .int 15)] []
  refine Y_aload_n hX dJ7_copyOf_1904c_0 0 rfl ?_
  refine Y_iload_n hX dJ7_copyOf_1904c_1 1 rfl ?_
  refine Y_aload_n hX dJ7_copyOf_1904c_2 0 rfl ?_
  refine Y_getC 0 0 hX hE2 (fun s h => hM A s h) gc_J7_86 rfl rfl ⟨Nat.le_of_ble_eq_true rfl, Nat.le_of_ble_eq_true rfl⟩ dJ7_copyOf_1904c_3 ?_
  refine Y_resq hX (sub := [[(el, .inl (K.1 2, 10, .inr (.inr (.inr (.inr f)))))], ww]) (rst := []) rfl (Y_runS (As := [.ref el, .int 15, .ref mi]) (rest := []) hX hE2 mk_J7_300 nkY_J7_copyOf_6403c hE (cY_J7_copyOf_6403c hE hF hM el f ww hk) rfl Ecall.same ⟨rfl, rfl⟩ ⟨Nat.le_of_ble_eq_true rfl, Nat.le_of_ble_eq_true rfl⟩ rfl rfl (Nat.le_of_ble_eq_true rfl) dJ7_copyOf_1904c_6 ⟨Nat.le_of_ble_eq_true rfl, Nat.le_of_ble_eq_true rfl⟩) (fun u6 => ?_)
  show Y X S K A 1 15 [[(el, .inl (K.1 2, 10, .inr (.inr (.inr (.inr f)))))], [(u6 0, .inl (K.1 2, 15, .inr (.inr (.inr (.inr (va_cpy f (fun _ => none) (0 : Int32).toNatClampNeg (0 : Int32).toNatClampNeg (10 : Int32).toNatClampNeg))))))], ww] 9 [(0, .ref el), (1, .int 15)] [.ref (u6 0)]
  exact hR u6 _ _ dJ7_copyOf_1904c_9
abbrev rmY_Jx4a65c_grow_92f84 : Room := { frames := 3, cells := 1, slots := 15, locals := 144 }
set_option maxHeartbeats 4000000 in
theorem cF_grow1 {S : Sx} {K : Kx} {E : Ex} (hE : Stb E) (hF : ∀ (A : Nat → Prop) (s : State), E A s → KF S K A s s.heap) {mi : Nat} (hM : ∀ (A : Nat → Prop) (s : State), E A s → va_Mi oaN mi s ∧ va_Dc s) (b el : Nat) (mod : Int32) (es : List (Option Nat)) (he : es.length = 10) (ww : va_W) (hk : Kept ww (elF es)) : CY S K E yJx4a65c_grow_92f84 cJx4a65c_grow_92f84 4 (some (.array (.object "java/lang/Object"))) rmY_Jx4a65c_grow_92f84 [.ref b, .int 11] ([hdC b el mod (nI 10), [(el, .inl (K.1 2, 10, .inr (.inr (.inr (.inr (elF es))))))], ww]) (QYq S ([hdC b el mod (nI 10), [(el, .inl (K.1 2, 10, .inr (.inr (.inr (.inr (elF es))))))], ww]) (fun u => some (u 0)) (fun u => [hdC b (u 0) mod (nI 10), [(u 0, .inl (K.1 2, 15, .inr (.inr (.inr (.inr (elF es))))))], ww])) 1 15 := by
  refine y_metq (own := RJx4a65c) (.inr ⟨_, rfl⟩) (by decide +kernel) rfl (Nat.le_of_ble_eq_true rfl) hE (fun X A hX hE2 hI hR => ?_)
  show Y X S K A 0 0 [hdC b el mod (nI 10), [(el, .inl (K.1 2, 10, .inr (.inr (.inr (.inr (elF es))))))], ww] 0 [(0, .ref b), (1, .int 11)] []
  refine Y_aload_n hX dJx4a65c_grow_92f84_0 0 rfl ?_
  refine Y_get 0 0 hX fk_Jx4a65c_9 rfl rfl rfl dJx4a65c_grow_92f84_1 ?_
  refine Y_alen (t0 := 6) (v := 10) 1 0 hX rfl rfl rfl rfl dJx4a65c_grow_92f84_4 ?_
  refine Y_istore_n (lv' := [(2, .int 10), (0, .ref b), (1, .int 11)]) hX dJx4a65c_grow_92f84_5 (by decide) rfl ?_
  refine Y_iload_n hX dJx4a65c_grow_92f84_6 0 rfl ?_
  refine Y_if_gt (tgt := 20) hX dJx4a65c_grow_92f84_7 (by decide) (fun _ => ?_) (fun z => absurd (by decide) z)
  refine Y_iload_n hX dJx4a65c_grow_92f84_20 0 rfl ?_
  refine Y_iload_n hX dJx4a65c_grow_92f84_21 2 rfl ?_
  refine Y_iload_n hX dJx4a65c_grow_92f84_22 0 rfl ?_
  refine Y_isub hX dJx4a65c_grow_92f84_23 ?_
  refine Y_eqi (x' := 1) ((by decide)) ?_
  refine Y_iload_n hX dJx4a65c_grow_92f84_24 0 rfl ?_
  refine Y_iconst (v := 1) hX dJx4a65c_grow_92f84_25 (by decide) ?_
  refine Y_ishr hX dJx4a65c_grow_92f84_26 ?_
  refine Y_eqi (x' := 5) ((by decide)) ?_
  refine Y_resi hX (sub := []) (rst := [hdC b el mod (nI 10), [(el, .inl (K.1 2, 10, .inr (.inr (.inr (.inr (elF es))))))], ww]) rfl (Y_runS (As := [.int 10, .int 1, .int 5]) (rest := []) hX hE2 mk_Jx4a65c_73 nkY_J8_newLength_cabcc hE (cY_J8_newLength_cabcc hE hF) rfl Ecall.same ⟨rfl, rfl⟩ ⟨Nat.le_of_ble_eq_true rfl, Nat.le_of_ble_eq_true rfl⟩ rfl rfl (Nat.le_of_ble_eq_true rfl) dJx4a65c_grow_92f84_27 ⟨Nat.le_of_ble_eq_true rfl, Nat.le_of_ble_eq_true rfl⟩) (fun u27 => ?_)
  show Y X S K A 0 0 [hdC b el mod (nI 10), [(el, .inl (K.1 2, 10, .inr (.inr (.inr (.inr (elF es))))))], ww] 30 [(2, .int 10), (0, .ref b), (1, .int 11)] [.int 15]
  refine Y_istore_n (lv' := [(3, .int 15), (2, .int 10), (0, .ref b), (1, .int 11)]) hX dJx4a65c_grow_92f84_30 (by decide) rfl ?_
  refine Y_aload_n hX dJx4a65c_grow_92f84_31 2 rfl ?_
  refine Y_aload_n hX dJx4a65c_grow_92f84_32 2 rfl ?_
  refine Y_get 0 0 hX fk_Jx4a65c_9 rfl rfl rfl dJx4a65c_grow_92f84_33 ?_
  refine Y_iload_n hX dJx4a65c_grow_92f84_36 0 rfl ?_
  refine Y_pick [1, 2, 0] (by decide) rfl ?_
  show Y X S K A 0 0 [[(el, .inl (K.1 2, 10, .inr (.inr (.inr (.inr (elF es))))))], ww, hdC b el mod (nI 10)] 37 [(3, .int 15), (2, .int 10), (0, .ref b), (1, .int 11)] [.int 15, .ref el, .ref b]
  refine Y_resq hX (sub := [[(el, .inl (K.1 2, 10, .inr (.inr (.inr (.inr (elF es))))))], ww]) (rst := [hdC b el mod (nI 10)]) rfl (Y_runS (As := [.ref el, .int 15]) (rest := [.ref b]) hX hE2 mk_Jx4a65c_66 nkY_J7_copyOf_1904c hE (cY_J7_copyOf_1904c hE hF hM el (elF es) ww hk) rfl Ecall.same ⟨rfl, rfl⟩ ⟨Nat.le_of_ble_eq_true rfl, Nat.le_of_ble_eq_true rfl⟩ rfl rfl (Nat.le_of_ble_eq_true rfl) dJx4a65c_grow_92f84_37 ⟨Nat.le_of_ble_eq_true rfl, Nat.le_of_ble_eq_true rfl⟩) (fun u37 => ?_)
  rw [el_cpy (by omega)]
  show Y X S K A 1 15 [[(el, .inl (K.1 2, 10, .inr (.inr (.inr (.inr (elF es))))))], [(u37 0, .inl (K.1 2, 15, .inr (.inr (.inr (.inr (elF es))))))], ww, hdC b el mod (nI 10)] 40 [(3, .int 15), (2, .int 10), (0, .ref b), (1, .int 11)] [.ref (u37 0), .ref b]
  refine Y_dup_x1 hX dJx4a65c_grow_92f84_40 rfl rfl ?_
  refine Y_put 3 0 hX fw_Jx4a65c_9 rfl rfl ⟨rfl, rfl, Nat.le_of_ble_eq_true rfl⟩ dJx4a65c_grow_92f84_41 ?_
  show Y X S K A 1 15 [[(el, .inl (K.1 2, 10, .inr (.inr (.inr (.inr (elF es))))))], [(u37 0, .inl (K.1 2, 15, .inr (.inr (.inr (.inr (elF es))))))], ww, [(b, .inr (2, [.int mod, .ref (u37 0), .int (nI 10)]))]] 44 [(3, .int 15), (2, .int 10), (0, .ref b), (1, .int 11)] [.ref (u37 0)]
  refine Y_pick [3, 1, 2] (by decide) rfl ?_
  exact hR u37 _ _ dJx4a65c_grow_92f84_44
abbrev rmY_Jx4a65c_grow_d5877 : Room := { frames := 4, cells := 1, slots := 15, locals := 167 }
set_option maxHeartbeats 4000000 in
theorem cF_grow0 {S : Sx} {K : Kx} {E : Ex} (hE : Stb E) (hF : ∀ (A : Nat → Prop) (s : State), E A s → KF S K A s s.heap) {mi : Nat} (hM : ∀ (A : Nat → Prop) (s : State), E A s → va_Mi oaN mi s ∧ va_Dc s) (b el : Nat) (mod : Int32) (es : List (Option Nat)) (he : es.length = 10) (ww : va_W) (hk : Kept ww (elF es)) : CY S K E yJx4a65c_grow_d5877 cJx4a65c_grow_d5877 1 (some (.array (.object "java/lang/Object"))) rmY_Jx4a65c_grow_d5877 [.ref b] ([hdC b el mod (nI 10), [(el, .inl (K.1 2, 10, .inr (.inr (.inr (.inr (elF es))))))], ww]) (QYq S ([hdC b el mod (nI 10), [(el, .inl (K.1 2, 10, .inr (.inr (.inr (.inr (elF es))))))], ww]) (fun u => some (u 0)) (fun u => [hdC b (u 0) mod (nI 10), [(u 0, .inl (K.1 2, 15, .inr (.inr (.inr (.inr (elF es))))))], ww])) 1 15 := by
  refine y_metq (own := RJx4a65c) (.inr ⟨_, rfl⟩) (by decide +kernel) rfl (Nat.le_of_ble_eq_true rfl) hE (fun X A hX hE2 hI hR => ?_)
  show Y X S K A 0 0 [hdC b el mod (nI 10), [(el, .inl (K.1 2, 10, .inr (.inr (.inr (.inr (elF es))))))], ww] 0 [(0, .ref b)] []
  refine Y_aload_n hX dJx4a65c_grow_d5877_0 0 rfl ?_
  refine Y_aload_n hX dJx4a65c_grow_d5877_1 0 rfl ?_
  refine Y_get 0 0 hX fk_Jx4a65c_48 rfl rfl rfl dJx4a65c_grow_d5877_2 ?_
  refine Y_iconst (v := 1) hX dJx4a65c_grow_d5877_5 (by decide) ?_
  refine Y_iadd hX dJx4a65c_grow_d5877_6 ?_
  refine Y_eqi (x' := 11) ((by decide)) ?_
  refine Y_resq hX (sub := [hdC b el mod (nI 10), [(el, .inl (K.1 2, 10, .inr (.inr (.inr (.inr (elF es))))))], ww]) (rst := []) rfl (Y_runV (b := 0) (i := 0) (As := [.int 11]) (rest := []) hX hE2 mk_Jx4a65c_69 nkY_Jx4a65c_grow_92f84 hE (cF_grow1 hE hF hM b el mod es he ww hk) rfl Ecall.same rfl rfl rfl ⟨rfl, rfl⟩ ⟨Nat.le_of_ble_eq_true rfl, Nat.le_of_ble_eq_true rfl⟩ rfl rfl (Nat.le_of_ble_eq_true rfl) dJx4a65c_grow_d5877_7 ⟨Nat.le_of_ble_eq_true rfl, Nat.le_of_ble_eq_true rfl⟩) (fun u7 => ?_)
  show Y X S K A 1 15 [hdC b (u7 0) mod (nI 10), [(u7 0, .inl (K.1 2, 15, .inr (.inr (.inr (.inr (elF es))))))], ww] 10 [(0, .ref b)] [.ref (u7 0)]
  exact hR u7 _ _ dJx4a65c_grow_d5877_10
set_option maxHeartbeats 4000000 in
theorem cE_grow1 {S : Sx} {K : Kx} {E : Ex} (hE : Stb E) (hF : ∀ (A : Nat → Prop) (s : State), E A s → KF S K A s s.heap) (b : Nat) (mod : Int32) : CY S K E yJx4a65c_grow_92f84 cJx4a65c_grow_92f84 4 (some (.array (.object "java/lang/Object"))) rmY_Jx4a65c_grow_92f84 [.ref b, .int 1] ([hdC b (K.2 3) mod 0]) (QYq S ([hdC b (K.2 3) mod 0]) (fun u => some (u 0)) (fun u => [hdC b (u 0) mod 0, [(u 0, .inl (K.1 2, 10, .inr (.inr (.inr (.inr (fun _ => none))))))]])) 1 15 := by
  refine y_metq (own := RJx4a65c) (.inr ⟨_, rfl⟩) (by decide +kernel) rfl (Nat.le_of_ble_eq_true rfl) hE (fun X A hX hE2 hI hR => ?_)
  show Y X S K A 0 0 [hdC b (K.2 3) mod 0] 0 [(0, .ref b), (1, .int 1)] []
  refine Y_aload_n hX dJx4a65c_grow_92f84_0 0 rfl ?_
  refine Y_get 0 0 hX fk_Jx4a65c_9 rfl rfl rfl dJx4a65c_grow_92f84_1 ?_
  refine Y_tlen (v := 0) hX hE2 (fun s h => (hF A s h).2.2.2.2.2.2.2.2.2.2.2.1) rfl dJx4a65c_grow_92f84_4 ?_
  refine Y_istore_n (lv' := [(2, .int 0), (0, .ref b), (1, .int 1)]) hX dJx4a65c_grow_92f84_5 (by decide) rfl ?_
  refine Y_iload_n hX dJx4a65c_grow_92f84_6 0 rfl ?_
  refine Y_if_gt (tgt := 20) hX dJx4a65c_grow_92f84_7 (by decide) (fun z => absurd z (by decide)) (fun _ => ?_)
  refine Y_aload_n hX dJx4a65c_grow_92f84_10 1 rfl ?_
  refine Y_get 0 0 hX fk_Jx4a65c_9 rfl rfl rfl dJx4a65c_grow_92f84_11 ?_
  refine Y_gets (v := .ref (K.2 3)) hX hE2 (fun s h => (hF A s h).2.2.2.2.2.2.2.2.2.2.1) fk_Jx4a65c_39 dJx4a65c_grow_92f84_14 ?_
  refine Y_acmp_eq (rx := (some (K.2 3))) (ry := (some (K.2 3))) (tgt := 45) hX dJx4a65c_grow_92f84_17 (by decide) (fun _ => ?_) (fun z => absurd rfl z)
  refine Y_aload_n hX dJx4a65c_grow_92f84_45 1 rfl ?_
  refine Y_bipush (v := 10) hX dJx4a65c_grow_92f84_46 (by decide) ?_
  refine Y_iload_n hX dJx4a65c_grow_92f84_48 2 rfl ?_
  refine Y_max hX mk_Jx4a65c_79 ⟨⟨Nat.le_of_ble_eq_true rfl, Nat.le_of_ble_eq_true rfl⟩, Nat.le_of_ble_eq_true rfl, Nat.le_of_ble_eq_true rfl⟩ dJx4a65c_grow_92f84_49 ?_
  refine Y_eqi (x' := 10) ((by decide)) ?_
  refine Y_newO (n := 10) hX cl_Jx4a65c_7 ⟨by decide, by decide, Nat.le_of_ble_eq_true rfl⟩ ⟨Nat.le_of_ble_eq_true rfl, Nat.le_of_ble_eq_true rfl⟩ dJx4a65c_grow_92f84_52 (fun q => ?_)
  show Y X S K A 1 10 [hdC b (K.2 3) mod 0, [(q, .inl (K.1 2, 10, .inr (.inr (.inr (.inr (fun _ => none))))))]] 55 [(2, .int 0), (0, .ref b), (1, .int 1)] [.ref q, .ref b]
  refine Y_dup_x1 hX dJx4a65c_grow_92f84_55 rfl rfl ?_
  refine Y_put 0 0 hX fw_Jx4a65c_9 rfl rfl ⟨rfl, rfl, Nat.le_of_ble_eq_true rfl⟩ dJx4a65c_grow_92f84_56 ?_
  show Y X S K A 1 10 [[(b, .inr (2, [.int mod, .ref q, .int 0]))], [(q, .inl (K.1 2, 10, .inr (.inr (.inr (.inr (fun _ => none))))))]] 59 [(2, .int 0), (0, .ref b), (1, .int 1)] [.ref q]
  refine Y_wd (kc' := 1) (kn' := 15) (Nat.le_of_ble_eq_true rfl) (Nat.le_of_ble_eq_true rfl) ?_
  exact hR (fun _ => q) _ _ dJx4a65c_grow_92f84_59
set_option maxHeartbeats 4000000 in
theorem cE_grow0 {S : Sx} {K : Kx} {E : Ex} (hE : Stb E) (hF : ∀ (A : Nat → Prop) (s : State), E A s → KF S K A s s.heap) (b : Nat) (mod : Int32) : CY S K E yJx4a65c_grow_d5877 cJx4a65c_grow_d5877 1 (some (.array (.object "java/lang/Object"))) rmY_Jx4a65c_grow_d5877 [.ref b] ([hdC b (K.2 3) mod 0]) (QYq S ([hdC b (K.2 3) mod 0]) (fun u => some (u 0)) (fun u => [hdC b (u 0) mod 0, [(u 0, .inl (K.1 2, 10, .inr (.inr (.inr (.inr (fun _ => none))))))]])) 1 15 := by
  refine y_metq (own := RJx4a65c) (.inr ⟨_, rfl⟩) (by decide +kernel) rfl (Nat.le_of_ble_eq_true rfl) hE (fun X A hX hE2 hI hR => ?_)
  show Y X S K A 0 0 [hdC b (K.2 3) mod 0] 0 [(0, .ref b)] []
  refine Y_aload_n hX dJx4a65c_grow_d5877_0 0 rfl ?_
  refine Y_aload_n hX dJx4a65c_grow_d5877_1 0 rfl ?_
  refine Y_get 0 0 hX fk_Jx4a65c_48 rfl rfl rfl dJx4a65c_grow_d5877_2 ?_
  refine Y_iconst (v := 1) hX dJx4a65c_grow_d5877_5 (by decide) ?_
  refine Y_iadd hX dJx4a65c_grow_d5877_6 ?_
  refine Y_eqi (x' := 1) ((by decide)) ?_
  refine Y_resq hX (sub := [hdC b (K.2 3) mod 0]) (rst := []) rfl (Y_runV (b := 0) (i := 0) (As := [.int 1]) (rest := []) hX hE2 mk_Jx4a65c_69 nkY_Jx4a65c_grow_92f84 hE (cE_grow1 hE hF b mod) rfl Ecall.same rfl rfl rfl ⟨rfl, rfl⟩ ⟨Nat.le_of_ble_eq_true rfl, Nat.le_of_ble_eq_true rfl⟩ rfl rfl (Nat.le_of_ble_eq_true rfl) dJx4a65c_grow_d5877_7 ⟨Nat.le_of_ble_eq_true rfl, Nat.le_of_ble_eq_true rfl⟩) (fun u7 => ?_)
  show Y X S K A 1 15 [hdC b (u7 0) mod 0, [(u7 0, .inl (K.1 2, 10, .inr (.inr (.inr (.inr (fun _ => none))))))]] 10 [(0, .ref b)] [.ref (u7 0)]
  exact hR u7 _ _ dJx4a65c_grow_d5877_10
theorem el10 {es : List (Option Nat)} {o : Option Nat} (he : es.length = 10) : elF (es ++ [o]) = va_up (elF es) (nI 10).toNatClampNeg o := by
  rw [nI_clamp (by decide), ← he]; exact el_put.symm
theorem len10 {es : List (Option Nat)} {o : Option Nat} (he : es.length = 10) : (es ++ [o]).length = 11 := by rw [List.length_append, he]; rfl
abbrev rmY_Jx4a65c_add_72be8 : Room := { frames := 5, cells := 1, slots := 15, locals := 187 }
set_option maxHeartbeats 4000000 in
theorem cF_add3 {S : Sx} {K : Kx} {E : Ex} (hE : Stb E) (hF : ∀ (A : Nat → Prop) (s : State), E A s → KF S K A s s.heap) {mi : Nat} (hM : ∀ (A : Nat → Prop) (s : State), E A s → va_Mi oaN mi s ∧ va_Dc s) (b el : Nat) (mod : Int32) (es : List (Option Nat)) (he : es.length = 10) (ww : va_W) (hk : Kept ww (elF es)) (o : Option Nat) (ho : ∀ y, o = some y → ∃ (i : Nat) (vs : List Value), ww[i]? = some (y, .inr (13, vs))) : CY S K E yJx4a65c_add_72be8 cJx4a65c_add_72be8 4 none rmY_Jx4a65c_add_72be8 [.ref b, va_rf o, .ref el, .int (nI 10)] ([hdC b el mod (nI 10), [(el, .inl (K.1 2, 10, .inr (.inr (.inr (.inr (elF es))))))], ww]) (QYv S ([hdC b el mod (nI 10), [(el, .inl (K.1 2, 10, .inr (.inr (.inr (.inr (elF es))))))], ww]) (fun u => [hdC b (u 0) mod (nI (es ++ [o]).length), [(u 0, .inl (K.1 2, 15, .inr (.inr (.inr (.inr (elF (es ++ [o])))))))], ww])) 1 15 := by
  cases o with
  | none =>
    refine y_metv (own := RJx4a65c) (by decide +kernel) rfl (Nat.le_of_ble_eq_true rfl) hE (fun X A hX hE2 hI hR => ?_)
    show Y X S K A 0 0 [hdC b el mod (nI 10), [(el, .inl (K.1 2, 10, .inr (.inr (.inr (.inr (elF es))))))], ww] 0 [(0, .ref b), (1, .null), (2, .ref el), (3, .int (nI 10))] []
    refine Y_iload_n hX dJx4a65c_add_72be8_0 3 rfl ?_
    refine Y_aload_n hX dJx4a65c_add_72be8_1 2 rfl ?_
    refine Y_alen (t0 := 6) (v := 10) 1 0 hX rfl rfl rfl rfl dJx4a65c_add_72be8_2 ?_
    refine Y_icmp_ne (tgt := 11) hX dJx4a65c_add_72be8_3 (by decide) (fun z => absurd (show nI 10 = 10 from rfl) z) (fun _ => ?_)
    refine Y_aload_n hX dJx4a65c_add_72be8_6 0 rfl ?_
    refine Y_resq hX (sub := [hdC b el mod (nI 10), [(el, .inl (K.1 2, 10, .inr (.inr (.inr (.inr (elF es))))))], ww]) (rst := []) rfl (Y_runV (b := 0) (i := 0) (As := []) (rest := []) hX hE2 mk_Jx4a65c_129 nkY_Jx4a65c_grow_d5877 hE (cF_grow0 hE hF hM b el mod es he ww hk) rfl Ecall.same rfl rfl rfl ⟨rfl, rfl⟩ ⟨Nat.le_of_ble_eq_true rfl, Nat.le_of_ble_eq_true rfl⟩ rfl rfl (Nat.le_of_ble_eq_true rfl) dJx4a65c_add_72be8_7 ⟨Nat.le_of_ble_eq_true rfl, Nat.le_of_ble_eq_true rfl⟩) (fun u7 => ?_)
    show Y X S K A 1 15 [hdC b (u7 0) mod (nI 10), [(u7 0, .inl (K.1 2, 15, .inr (.inr (.inr (.inr (elF es))))))], ww] 10 [(0, .ref b), (1, .null), (2, .ref el), (3, .int (nI 10))] [.ref (u7 0)]
    refine Y_astore_n (lv' := [(2, .ref (u7 0)), (0, .ref b), (1, .null), (3, .int (nI 10))]) hX dJx4a65c_add_72be8_10 (by decide) rfl ?_
    refine Y_aload_n hX dJx4a65c_add_72be8_11 0 rfl ?_
    refine Y_iload_n hX dJx4a65c_add_72be8_12 3 rfl ?_
    refine Y_aload_nN hX dJx4a65c_add_72be8_13 2 rfl ?_
    refine Y_aastN 1 0 hX rfl rfl (inB_in (by decide)) dJx4a65c_add_72be8_14 ?_
    show Y X S K A 1 15 [hdC b (u7 0) mod (nI 10), [(u7 0, .inl (K.1 2, 15, .inr (.inr (.inr (.inr (va_up (elF es) (nI 10).toNatClampNeg none))))))], ww] 15 [(2, .ref (u7 0)), (0, .ref b), (1, .null), (3, .int (nI 10))] []
    refine Y_aload_n hX dJx4a65c_add_72be8_15 1 rfl ?_
    refine Y_iload_n hX dJx4a65c_add_72be8_16 3 rfl ?_
    refine Y_iconst (v := 1) hX dJx4a65c_add_72be8_17 (by decide) ?_
    refine Y_iadd hX dJx4a65c_add_72be8_18 ?_
    refine Y_eqi (x' := nI 11) ((by decide)) ?_
    refine Y_put 0 0 hX fw_Jx4a65c_48 rfl rfl ⟨rfl, rfl, Nat.le_of_ble_eq_true rfl⟩ dJx4a65c_add_72be8_19 ?_
    show Y X S K A 1 15 [[(b, .inr (2, [.int mod, .ref (u7 0), .int (nI 11)]))], [(u7 0, .inl (K.1 2, 15, .inr (.inr (.inr (.inr (va_up (elF es) (nI 10).toNatClampNeg none))))))], ww] 22 [(2, .ref (u7 0)), (0, .ref b), (1, .null), (3, .int (nI 10))] []
    refine Y_bl (bl' := [hdC b (u7 0) mod (nI (es ++ [none]).length), [(u7 0, .inl (K.1 2, 15, .inr (.inr (.inr (.inr (elF (es ++ [none])))))))], ww]) (by rw [el10 (o := none) he, len10 (o := none) he]; rfl) ?_
    exact hR u7 _ _ dJx4a65c_add_72be8_22
  | some y =>
    obtain ⟨i0, vs0, hi0⟩ := ho y rfl
    refine y_metv (own := RJx4a65c) (by decide +kernel) rfl (Nat.le_of_ble_eq_true rfl) hE (fun X A hX hE2 hI hR => ?_)
    show Y X S K A 0 0 [hdC b el mod (nI 10), [(el, .inl (K.1 2, 10, .inr (.inr (.inr (.inr (elF es))))))], ww] 0 [(0, .ref b), (1, .ref y), (2, .ref el), (3, .int (nI 10))] []
    refine Y_iload_n hX dJx4a65c_add_72be8_0 3 rfl ?_
    refine Y_aload_n hX dJx4a65c_add_72be8_1 2 rfl ?_
    refine Y_alen (t0 := 6) (v := 10) 1 0 hX rfl rfl rfl rfl dJx4a65c_add_72be8_2 ?_
    refine Y_icmp_ne (tgt := 11) hX dJx4a65c_add_72be8_3 (by decide) (fun z => absurd (show nI 10 = 10 from rfl) z) (fun _ => ?_)
    refine Y_aload_n hX dJx4a65c_add_72be8_6 0 rfl ?_
    refine Y_resq hX (sub := [hdC b el mod (nI 10), [(el, .inl (K.1 2, 10, .inr (.inr (.inr (.inr (elF es))))))], ww]) (rst := []) rfl (Y_runV (b := 0) (i := 0) (As := []) (rest := []) hX hE2 mk_Jx4a65c_129 nkY_Jx4a65c_grow_d5877 hE (cF_grow0 hE hF hM b el mod es he ww hk) rfl Ecall.same rfl rfl rfl ⟨rfl, rfl⟩ ⟨Nat.le_of_ble_eq_true rfl, Nat.le_of_ble_eq_true rfl⟩ rfl rfl (Nat.le_of_ble_eq_true rfl) dJx4a65c_add_72be8_7 ⟨Nat.le_of_ble_eq_true rfl, Nat.le_of_ble_eq_true rfl⟩) (fun u7 => ?_)
    show Y X S K A 1 15 [hdC b (u7 0) mod (nI 10), [(u7 0, .inl (K.1 2, 15, .inr (.inr (.inr (.inr (elF es))))))], ww] 10 [(0, .ref b), (1, .ref y), (2, .ref el), (3, .int (nI 10))] [.ref (u7 0)]
    refine Y_astore_n (lv' := [(2, .ref (u7 0)), (0, .ref b), (1, .ref y), (3, .int (nI 10))]) hX dJx4a65c_add_72be8_10 (by decide) rfl ?_
    refine Y_aload_n hX dJx4a65c_add_72be8_11 0 rfl ?_
    refine Y_iload_n hX dJx4a65c_add_72be8_12 3 rfl ?_
    refine Y_aload_n hX dJx4a65c_add_72be8_13 2 rfl ?_
    refine Y_aastO (ci := 13) 1 0 2 i0 hX rfl rfl rfl hi0 rfl (by decide) (inB_in (by decide)) dJx4a65c_add_72be8_14 ?_
    show Y X S K A 1 15 [hdC b (u7 0) mod (nI 10), [(u7 0, .inl (K.1 2, 15, .inr (.inr (.inr (.inr (va_up (elF es) (nI 10).toNatClampNeg (some y)))))))], ww] 15 [(2, .ref (u7 0)), (0, .ref b), (1, .ref y), (3, .int (nI 10))] []
    refine Y_aload_n hX dJx4a65c_add_72be8_15 1 rfl ?_
    refine Y_iload_n hX dJx4a65c_add_72be8_16 3 rfl ?_
    refine Y_iconst (v := 1) hX dJx4a65c_add_72be8_17 (by decide) ?_
    refine Y_iadd hX dJx4a65c_add_72be8_18 ?_
    refine Y_eqi (x' := nI 11) ((by decide)) ?_
    refine Y_put 0 0 hX fw_Jx4a65c_48 rfl rfl ⟨rfl, rfl, Nat.le_of_ble_eq_true rfl⟩ dJx4a65c_add_72be8_19 ?_
    show Y X S K A 1 15 [[(b, .inr (2, [.int mod, .ref (u7 0), .int (nI 11)]))], [(u7 0, .inl (K.1 2, 15, .inr (.inr (.inr (.inr (va_up (elF es) (nI 10).toNatClampNeg (some y)))))))], ww] 22 [(2, .ref (u7 0)), (0, .ref b), (1, .ref y), (3, .int (nI 10))] []
    refine Y_bl (bl' := [hdC b (u7 0) mod (nI (es ++ [some y]).length), [(u7 0, .inl (K.1 2, 15, .inr (.inr (.inr (.inr (elF (es ++ [some y])))))))], ww]) (by rw [el10 (o := some y) he, len10 (o := some y) he]; rfl) ?_
    exact hR u7 _ _ dJx4a65c_add_72be8_22
theorem el00 {o : Option Nat} : elF ([] ++ [o]) = va_up (fun _ => none) (nI 0).toNatClampNeg o := by
  rw [show (nI 0).toNatClampNeg = 0 from rfl]
  funext j
  unfold va_up elF
  match j with
  | 0 => rfl
  | j + 1 => rw [if_neg (by omega)]; rfl
set_option maxHeartbeats 4000000 in
theorem cE_add3 {S : Sx} {K : Kx} {E : Ex} (hE : Stb E) (hF : ∀ (A : Nat → Prop) (s : State), E A s → KF S K A s s.heap) (b : Nat) (mod : Int32) (ww : va_W) (o : Option Nat) (ho : ∀ y, o = some y → ∃ (i : Nat) (vs : List Value), ww[i]? = some (y, .inr (13, vs))) : CY S K E yJx4a65c_add_72be8 cJx4a65c_add_72be8 4 none rmY_Jx4a65c_add_72be8 [.ref b, va_rf o, .ref (K.2 3), .int (nI 0)] ([hdC b (K.2 3) mod 0, ww]) (QYv S ([hdC b (K.2 3) mod 0, ww]) (fun u => [hdC b (u 0) mod (nI (([] : List (Option Nat)) ++ [o]).length), [(u 0, .inl (K.1 2, 10, .inr (.inr (.inr (.inr (elF ([] ++ [o])))))))], ww])) 1 15 := by
  cases o with
  | none =>
    refine y_metv (own := RJx4a65c) (by decide +kernel) rfl (Nat.le_of_ble_eq_true rfl) hE (fun X A hX hE2 hI hR => ?_)
    show Y X S K A 0 0 [hdC b (K.2 3) mod 0, ww] 0 [(0, .ref b), (1, .null), (2, .ref (K.2 3)), (3, .int (nI 0))] []
    refine Y_iload_n hX dJx4a65c_add_72be8_0 3 rfl ?_
    refine Y_aload_n hX dJx4a65c_add_72be8_1 2 rfl ?_
    refine Y_tlen (v := 0) hX hE2 (fun s h => (hF A s h).2.2.2.2.2.2.2.2.2.2.2.1) rfl dJx4a65c_add_72be8_2 ?_
    refine Y_icmp_ne (tgt := 11) hX dJx4a65c_add_72be8_3 (by decide) (fun z => absurd (show nI 0 = 0 from rfl) z) (fun _ => ?_)
    refine Y_aload_n hX dJx4a65c_add_72be8_6 0 rfl ?_
    refine Y_resq hX (sub := [hdC b (K.2 3) mod 0]) (rst := [ww]) rfl (Y_runV (b := 0) (i := 0) (As := []) (rest := []) hX hE2 mk_Jx4a65c_129 nkY_Jx4a65c_grow_d5877 hE (cE_grow0 hE hF b mod) rfl Ecall.same rfl rfl rfl ⟨rfl, rfl⟩ ⟨Nat.le_of_ble_eq_true rfl, Nat.le_of_ble_eq_true rfl⟩ rfl rfl (Nat.le_of_ble_eq_true rfl) dJx4a65c_add_72be8_7 ⟨Nat.le_of_ble_eq_true rfl, Nat.le_of_ble_eq_true rfl⟩) (fun u7 => ?_)
    show Y X S K A 1 15 [hdC b (u7 0) mod 0, [(u7 0, .inl (K.1 2, 10, .inr (.inr (.inr (.inr (fun _ => none))))))], ww] 10 [(0, .ref b), (1, .null), (2, .ref (K.2 3)), (3, .int (nI 0))] [.ref (u7 0)]
    refine Y_astore_n (lv' := [(2, .ref (u7 0)), (0, .ref b), (1, .null), (3, .int (nI 0))]) hX dJx4a65c_add_72be8_10 (by decide) rfl ?_
    refine Y_aload_n hX dJx4a65c_add_72be8_11 0 rfl ?_
    refine Y_iload_n hX dJx4a65c_add_72be8_12 3 rfl ?_
    refine Y_aload_nN hX dJx4a65c_add_72be8_13 2 rfl ?_
    refine Y_aastN 1 0 hX rfl rfl (inB_in (by decide)) dJx4a65c_add_72be8_14 ?_
    show Y X S K A 1 15 [hdC b (u7 0) mod 0, [(u7 0, .inl (K.1 2, 10, .inr (.inr (.inr (.inr (va_up (fun _ => none) (nI 0).toNatClampNeg none))))))], ww] 15 [(2, .ref (u7 0)), (0, .ref b), (1, .null), (3, .int (nI 0))] []
    refine Y_aload_n hX dJx4a65c_add_72be8_15 1 rfl ?_
    refine Y_iload_n hX dJx4a65c_add_72be8_16 3 rfl ?_
    refine Y_iconst (v := 1) hX dJx4a65c_add_72be8_17 (by decide) ?_
    refine Y_iadd hX dJx4a65c_add_72be8_18 ?_
    refine Y_eqi (x' := 1) ((by decide)) ?_
    refine Y_put 0 0 hX fw_Jx4a65c_48 rfl rfl ⟨rfl, rfl, Nat.le_of_ble_eq_true rfl⟩ dJx4a65c_add_72be8_19 ?_
    show Y X S K A 1 15 [[(b, .inr (2, [.int mod, .ref (u7 0), .int 1]))], [(u7 0, .inl (K.1 2, 10, .inr (.inr (.inr (.inr (va_up (fun _ => none) (nI 0).toNatClampNeg none))))))], ww] 22 [(2, .ref (u7 0)), (0, .ref b), (1, .null), (3, .int (nI 0))] []
    refine Y_bl (bl' := [hdC b (u7 0) mod (nI (([] : List (Option Nat)) ++ [none]).length), [(u7 0, .inl (K.1 2, 10, .inr (.inr (.inr (.inr (elF ([] ++ [none])))))))], ww]) (by rw [el00 (o := none)]; rfl) ?_
    exact hR u7 _ _ dJx4a65c_add_72be8_22
  | some y =>
    obtain ⟨i0, vs0, hi0⟩ := ho y rfl
    refine y_metv (own := RJx4a65c) (by decide +kernel) rfl (Nat.le_of_ble_eq_true rfl) hE (fun X A hX hE2 hI hR => ?_)
    show Y X S K A 0 0 [hdC b (K.2 3) mod 0, ww] 0 [(0, .ref b), (1, .ref y), (2, .ref (K.2 3)), (3, .int (nI 0))] []
    refine Y_iload_n hX dJx4a65c_add_72be8_0 3 rfl ?_
    refine Y_aload_n hX dJx4a65c_add_72be8_1 2 rfl ?_
    refine Y_tlen (v := 0) hX hE2 (fun s h => (hF A s h).2.2.2.2.2.2.2.2.2.2.2.1) rfl dJx4a65c_add_72be8_2 ?_
    refine Y_icmp_ne (tgt := 11) hX dJx4a65c_add_72be8_3 (by decide) (fun z => absurd (show nI 0 = 0 from rfl) z) (fun _ => ?_)
    refine Y_aload_n hX dJx4a65c_add_72be8_6 0 rfl ?_
    refine Y_resq hX (sub := [hdC b (K.2 3) mod 0]) (rst := [ww]) rfl (Y_runV (b := 0) (i := 0) (As := []) (rest := []) hX hE2 mk_Jx4a65c_129 nkY_Jx4a65c_grow_d5877 hE (cE_grow0 hE hF b mod) rfl Ecall.same rfl rfl rfl ⟨rfl, rfl⟩ ⟨Nat.le_of_ble_eq_true rfl, Nat.le_of_ble_eq_true rfl⟩ rfl rfl (Nat.le_of_ble_eq_true rfl) dJx4a65c_add_72be8_7 ⟨Nat.le_of_ble_eq_true rfl, Nat.le_of_ble_eq_true rfl⟩) (fun u7 => ?_)
    show Y X S K A 1 15 [hdC b (u7 0) mod 0, [(u7 0, .inl (K.1 2, 10, .inr (.inr (.inr (.inr (fun _ => none))))))], ww] 10 [(0, .ref b), (1, .ref y), (2, .ref (K.2 3)), (3, .int (nI 0))] [.ref (u7 0)]
    refine Y_astore_n (lv' := [(2, .ref (u7 0)), (0, .ref b), (1, .ref y), (3, .int (nI 0))]) hX dJx4a65c_add_72be8_10 (by decide) rfl ?_
    refine Y_aload_n hX dJx4a65c_add_72be8_11 0 rfl ?_
    refine Y_iload_n hX dJx4a65c_add_72be8_12 3 rfl ?_
    refine Y_aload_n hX dJx4a65c_add_72be8_13 2 rfl ?_
    refine Y_aastO (ci := 13) 1 0 2 i0 hX rfl rfl rfl hi0 rfl (by decide) (inB_in (by decide)) dJx4a65c_add_72be8_14 ?_
    show Y X S K A 1 15 [hdC b (u7 0) mod 0, [(u7 0, .inl (K.1 2, 10, .inr (.inr (.inr (.inr (va_up (fun _ => none) (nI 0).toNatClampNeg (some y)))))))], ww] 15 [(2, .ref (u7 0)), (0, .ref b), (1, .ref y), (3, .int (nI 0))] []
    refine Y_aload_n hX dJx4a65c_add_72be8_15 1 rfl ?_
    refine Y_iload_n hX dJx4a65c_add_72be8_16 3 rfl ?_
    refine Y_iconst (v := 1) hX dJx4a65c_add_72be8_17 (by decide) ?_
    refine Y_iadd hX dJx4a65c_add_72be8_18 ?_
    refine Y_eqi (x' := 1) ((by decide)) ?_
    refine Y_put 0 0 hX fw_Jx4a65c_48 rfl rfl ⟨rfl, rfl, Nat.le_of_ble_eq_true rfl⟩ dJx4a65c_add_72be8_19 ?_
    show Y X S K A 1 15 [[(b, .inr (2, [.int mod, .ref (u7 0), .int 1]))], [(u7 0, .inl (K.1 2, 10, .inr (.inr (.inr (.inr (va_up (fun _ => none) (nI 0).toNatClampNeg (some y)))))))], ww] 22 [(2, .ref (u7 0)), (0, .ref b), (1, .ref y), (3, .int (nI 0))] []
    refine Y_bl (bl' := [hdC b (u7 0) mod (nI (([] : List (Option Nat)) ++ [some y]).length), [(u7 0, .inl (K.1 2, 10, .inr (.inr (.inr (.inr (elF ([] ++ [some y])))))))], ww]) (by rw [el00 (o := some y)]; rfl) ?_
    exact hR u7 _ _ dJx4a65c_add_72be8_22
set_option maxHeartbeats 4000000 in
theorem cP_add3 {S : Sx} {K : Kx} {E : Ex} (hE : Stb E) (hF : ∀ (A : Nat → Prop) (s : State), E A s → KF S K A s s.heap) (b el cap : Nat) (mod : Int32) (es : List (Option Nat)) (he : es.length < cap) (hc : cap ≤ 15) (ww : va_W) (o : Option Nat) (ho : ∀ y, o = some y → ∃ (i : Nat) (vs : List Value), ww[i]? = some (y, .inr (13, vs))) : CY S K E yJx4a65c_add_72be8 cJx4a65c_add_72be8 4 none rmY_Jx4a65c_add_72be8 [.ref b, va_rf o, .ref el, .int (nI es.length)] ([hdC b el mod (nI es.length), [(el, .inl (K.1 2, cap, .inr (.inr (.inr (.inr (elF es))))))], ww]) (QYv S ([hdC b el mod (nI es.length), [(el, .inl (K.1 2, cap, .inr (.inr (.inr (.inr (elF es))))))], ww]) (fun _ => [hdC b el mod (nI (es ++ [o]).length), [(el, .inl (K.1 2, cap, .inr (.inr (.inr (.inr (elF (es ++ [o])))))))], ww])) 1 15 := by
  cases o with
  | none =>
    refine y_metv (own := RJx4a65c) (by decide +kernel) rfl (Nat.le_of_ble_eq_true rfl) hE (fun X A hX hE2 hI hR => ?_)
    show Y X S K A 0 0 [hdC b el mod (nI es.length), [(el, .inl (K.1 2, cap, .inr (.inr (.inr (.inr (elF es))))))], ww] 0 [(0, .ref b), (1, .null), (2, .ref el), (3, .int (nI es.length))] []
    refine Y_iload_n hX dJx4a65c_add_72be8_0 3 rfl ?_
    refine Y_aload_n hX dJx4a65c_add_72be8_1 2 rfl ?_
    refine Y_alen (t0 := 6) (v := nI cap) 1 0 hX rfl rfl rfl rfl dJx4a65c_add_72be8_2 ?_
    refine Y_icmp_ne (tgt := 11) hX dJx4a65c_add_72be8_3 (by decide) (fun _ => ?_) (fun z => absurd z (fun e => absurd ((nI_eq (by omega) (by omega)).mp e) (by omega)))
    refine Y_aload_n hX dJx4a65c_add_72be8_11 2 rfl ?_
    refine Y_iload_n hX dJx4a65c_add_72be8_12 3 rfl ?_
    refine Y_aload_nN hX dJx4a65c_add_72be8_13 1 rfl ?_
    refine Y_aastN 1 0 hX rfl rfl (vp_in_nI (by omega) (by omega)) dJx4a65c_add_72be8_14 ?_
    show Y X S K A 0 0 [hdC b el mod (nI es.length), [(el, .inl (K.1 2, cap, .inr (.inr (.inr (.inr (va_up (elF es) (nI es.length).toNatClampNeg none))))))], ww] 15 [(0, .ref b), (1, .null), (2, .ref el), (3, .int (nI es.length))] []
    refine Y_aload_n hX dJx4a65c_add_72be8_15 0 rfl ?_
    refine Y_iload_n hX dJx4a65c_add_72be8_16 3 rfl ?_
    refine Y_iconst (v := 1) hX dJx4a65c_add_72be8_17 (by decide) ?_
    refine Y_iadd hX dJx4a65c_add_72be8_18 ?_
    refine Y_eqi (x' := nI (es.length + 1)) ((nI_1 _)) ?_
    refine Y_put 0 0 hX fw_Jx4a65c_48 rfl rfl ⟨rfl, rfl, Nat.le_of_ble_eq_true rfl⟩ dJx4a65c_add_72be8_19 ?_
    show Y X S K A 0 0 [[(b, .inr (2, [.int mod, .ref el, .int (nI (es.length + 1))]))], [(el, .inl (K.1 2, cap, .inr (.inr (.inr (.inr (va_up (elF es) (nI es.length).toNatClampNeg none))))))], ww] 22 [(0, .ref b), (1, .null), (2, .ref el), (3, .int (nI es.length))] []
    refine Y_bl (bl' := [hdC b el mod (nI (es ++ [none]).length), [(el, .inl (K.1 2, cap, .inr (.inr (.inr (.inr (elF (es ++ [none])))))))], ww]) (by rw [← el_put (o := none), nI_clamp (by omega), List.length_append]; rfl) ?_
    refine Y_wd (kc' := 1) (kn' := 15) (Nat.zero_le _) (Nat.zero_le _) ?_
    exact hR (fun _ => 0) _ _ dJx4a65c_add_72be8_22
  | some y =>
    obtain ⟨i0, vs0, hi0⟩ := ho y rfl
    refine y_metv (own := RJx4a65c) (by decide +kernel) rfl (Nat.le_of_ble_eq_true rfl) hE (fun X A hX hE2 hI hR => ?_)
    show Y X S K A 0 0 [hdC b el mod (nI es.length), [(el, .inl (K.1 2, cap, .inr (.inr (.inr (.inr (elF es))))))], ww] 0 [(0, .ref b), (1, .ref y), (2, .ref el), (3, .int (nI es.length))] []
    refine Y_iload_n hX dJx4a65c_add_72be8_0 3 rfl ?_
    refine Y_aload_n hX dJx4a65c_add_72be8_1 2 rfl ?_
    refine Y_alen (t0 := 6) (v := nI cap) 1 0 hX rfl rfl rfl rfl dJx4a65c_add_72be8_2 ?_
    refine Y_icmp_ne (tgt := 11) hX dJx4a65c_add_72be8_3 (by decide) (fun _ => ?_) (fun z => absurd z (fun e => absurd ((nI_eq (by omega) (by omega)).mp e) (by omega)))
    refine Y_aload_n hX dJx4a65c_add_72be8_11 2 rfl ?_
    refine Y_iload_n hX dJx4a65c_add_72be8_12 3 rfl ?_
    refine Y_aload_n hX dJx4a65c_add_72be8_13 1 rfl ?_
    refine Y_aastO (ci := 13) 1 0 2 i0 hX rfl rfl rfl hi0 rfl (by decide) (vp_in_nI (by omega) (by omega)) dJx4a65c_add_72be8_14 ?_
    show Y X S K A 0 0 [hdC b el mod (nI es.length), [(el, .inl (K.1 2, cap, .inr (.inr (.inr (.inr (va_up (elF es) (nI es.length).toNatClampNeg (some y)))))))], ww] 15 [(0, .ref b), (1, .ref y), (2, .ref el), (3, .int (nI es.length))] []
    refine Y_aload_n hX dJx4a65c_add_72be8_15 0 rfl ?_
    refine Y_iload_n hX dJx4a65c_add_72be8_16 3 rfl ?_
    refine Y_iconst (v := 1) hX dJx4a65c_add_72be8_17 (by decide) ?_
    refine Y_iadd hX dJx4a65c_add_72be8_18 ?_
    refine Y_eqi (x' := nI (es.length + 1)) ((nI_1 _)) ?_
    refine Y_put 0 0 hX fw_Jx4a65c_48 rfl rfl ⟨rfl, rfl, Nat.le_of_ble_eq_true rfl⟩ dJx4a65c_add_72be8_19 ?_
    show Y X S K A 0 0 [[(b, .inr (2, [.int mod, .ref el, .int (nI (es.length + 1))]))], [(el, .inl (K.1 2, cap, .inr (.inr (.inr (.inr (va_up (elF es) (nI es.length).toNatClampNeg (some y)))))))], ww] 22 [(0, .ref b), (1, .ref y), (2, .ref el), (3, .int (nI es.length))] []
    refine Y_bl (bl' := [hdC b el mod (nI (es ++ [some y]).length), [(el, .inl (K.1 2, cap, .inr (.inr (.inr (.inr (elF (es ++ [some y])))))))], ww]) (by rw [← el_put (o := some y), nI_clamp (by omega), List.length_append]; rfl) ?_
    refine Y_wd (kc' := 1) (kn' := 15) (Nat.zero_le _) (Nat.zero_le _) ?_
    exact hR (fun _ => 0) _ _ dJx4a65c_add_72be8_22
