-- ===== the law's own objects =====
/-- a tower kept: its cells -/
def stC (S : Sx) (n p : Nat) (a : Nat → Nat) (ti ro db : Nat → Int32) (st no ru si sp pa : Int32) : va_W := [(a 0, .inr (13, [.ref (a 1), .ref (a 2), .int st, .int no, .int ru, .int si, .int sp, .int pa, .ref (a 3)])), (a 1, .inl (cAr S 0, n, .inl ti)), (a 2, .inl (cAr S 2, n, .inl ro)), (a 3, .inl (cAr S 2, p, .inl db))]
def outC (n : Nat) (ra : Nat → Nat) : Nat → Option Nat := fun j => if j < n then some (ra j) else none
def bnC (S : Sx) (K : Kx) (n p : Nat) (b ra rb : Nat → Nat) (w f mo r : Int32) : va_W := [(b 0, .inr (14, [.ref (b 1), .ref (b 2), .int w, .int f, .int mo, .int r])), (b 1, .inl (K.1 1, n, .inr (.inr (.inr (.inr (outC n ra)))))), (b 2, .inl (K.1 1, p, .inr (.inr (.inr (.inr (outC p rb))))))]
def rw2 (x y : Int32) : Nat → Int32 := fun i => if i = 0 then x else y
def rwC (S : Sx) (n : Nat) (ra : Nat → Nat) (f g : Nat → Int32) : va_W := (List.range n).map (fun j => (ra j, .inl (cAr S 0, 2, .inl (rw2 (f j) (g j)))))
theorem rwC_at {S : Sx} {n : Nat} {ra : Nat → Nat} {f g : Nat → Int32} {k : Nat} (h : k < n) : (rwC S n ra f g)[k]? = some (ra k, .inl (cAr S 0, 2, .inl (rw2 (f k) (g k)))) := by
  unfold rwC
  rw [List.getElem?_map, List.getElem?_range h]
  rfl
theorem outC_at {n : Nat} {ra : Nat → Nat} {k : Nat} (h : k < n) (hn : n ≤ 8) : outC n ra (nI k).toNatClampNeg = some (ra k) := by
  unfold outC
  rw [nI_clamp (by omega), if_pos h]
theorem iinc1 (k : Nat) : nI k + Int32.ofInt 1 = nI (k + 1) := nI_1 k
theorem at8 {f : Nat → Int32} {k : Nat} (h : k < 2 ^ 31) : f (nI k).toNatClampNeg = f k := by rw [nI_clamp h]
def ad4 (q0 q1 q2 q3 : Nat) : Nat → Nat := fun k => if k = 0 then q0 else if k = 1 then q1 else if k = 2 then q2 else q3
def bitsL (f : Nat → Int32) : Nat → Int32
  | 0 => 0
  | k + 1 => if f k = 0 then bitsL f k else bitsL f k ||| ishlI 1 (nI k)
theorem nar01 {x : Int32} (h : x = 0 ∨ x = 1) : vp_nar .boolean x = x := by rcases h with rfl | rfl <;> rfl
abbrev rmY_X11_init : Room := { frames := 1, cells := 0, slots := 0, locals := 40 }
set_option maxHeartbeats 4000000 in
theorem cY_X11_init {S : Sx} {K : Kx} {E : Ex} (hE : Stb E) (hF : ∀ (A : Nat → Prop) (s : State), E A s → KF S K A s s.heap) (q : Nat) : CY S K E yX11_init cX11_init 1 none rmY_X11_init [.ref q] ([[(q, .inr (13, [.null, .null, .int 0, .int 0, .int 0, .int 0, .int 0, .int 0, .null]))]]) (QYv S ([[(q, .inr (13, [.null, .null, .int 0, .int 0, .int 0, .int 0, .int 0, .int 0, .null]))]]) (fun _ => [[(q, .inr (13, [.null, .null, .int 50, .int 0, .int 0, .int 0, .int 0, .int 0, .null]))]])) 0 0 := by
  refine y_metv (own := RX11) (by decide +kernel) rfl (Nat.le_of_ble_eq_true rfl) hE (fun X A hX hE2 hI hR => ?_)
  show Y X S K A 0 0 [[(q, .inr (13, [.null, .null, .int 0, .int 0, .int 0, .int 0, .int 0, .int 0, .null]))]] 0 [(0, .ref q)] []
  refine Y_aload_n hX dX11_init_0 0 rfl ?_
  refine Y_objInit hX ob_X11_1 ⟨Nat.le_of_ble_eq_true rfl, Nat.le_of_ble_eq_true rfl⟩ dX11_init_1 ?_
  refine Y_aload_n hX dX11_init_4 0 rfl ?_
  refine Y_bipush (v := 50) hX dX11_init_5 (by decide) ?_
  refine Y_put 0 0 hX fw_X11_7 rfl rfl ⟨rfl, rfl, Nat.le_of_ble_eq_true rfl⟩ dX11_init_7 ?_
  show Y X S K A 0 0 [[(q, .inr (13, [.null, .null, .int 50, .int 0, .int 0, .int 0, .int 0, .int 0, .null]))]] 10 [(0, .ref q)] []
  exact hR (fun _ => 0) _ _ dX11_init_10
theorem fit_i {cA : ClassId} {n : Nat} {f : Nat → Int32} {i : Nat} {v : Value} (hv : (vp_cell cA (n, .inl f)).slots[i]? = some v) : fits .int v = true := by
  by_cases h : i < n
  · have e : (vp_cell cA (n, .inl f)).slots[i]? = some (.int (f i)) := arrV_read _ _ h
    rw [e] at hv
    cases hv
    rfl
  · have e : (vp_cell cA (n, .inl f)).slots[i]? = none := Array.getElem?_eq_none (by show (arrV _ _ _).slots.size ≤ i; rw [arrV_size]; omega)
    rw [e] at hv
    cases hv
theorem fit_z {cA : ClassId} {n : Nat} {f : Nat → Int32} (h01 : ∀ k, f k = 0 ∨ f k = 1) {i : Nat} {v : Value} (hv : (vp_cell cA (n, .inl f)).slots[i]? = some v) : fits .boolean v = true := by
  by_cases h : i < n
  · have e : (vp_cell cA (n, .inl f)).slots[i]? = some (.int (f i)) := arrV_read _ _ h
    rw [e] at hv
    cases hv
    rcases h01 i with z | z <;> rw [z] <;> rfl
  · have e : (vp_cell cA (n, .inl f)).slots[i]? = none := Array.getElem?_eq_none (by show (arrV _ _ _).slots.size ≤ i; rw [arrV_size]; omega)
    rw [e] at hv
    cases hv
abbrev rmY_X11_copy : Room := { frames := 2, cells := 4, slots := 33, locals := 60 }
set_option maxHeartbeats 4000000 in
theorem cY_X11_copy {S : Sx} {K : Kx} {E : Ex} (hE : Stb E) (hF : ∀ (A : Nat → Prop) (s : State), E A s → KF S K A s s.heap) (n p : Nat) (a : Nat → Nat) (ti ro db : Nat → Int32) (st no ru si sp pa : Int32) (hn : n ≤ 8) (hp : p ≤ 8) (hr : ∀ k, ro k = 0 ∨ ro k = 1) (hd : ∀ k, db k = 0 ∨ db k = 1) : CY S K E yX11_copy cX11_copy 2 (some (.object "MustNotStopLaw$Bench$State")) rmY_X11_copy [.ref (a 0)] ([stC S n p a ti ro db st no ru si sp pa]) (QYq S ([stC S n p a ti ro db st no ru si sp pa]) (fun u => some (u 0)) (fun u => [stC S n p a ti ro db st no ru si sp pa, stC S n p u ti ro db st no ru si sp pa])) 4 33 := by
  refine y_metq (own := RX11) (.inl ⟨_, rfl⟩) (by decide +kernel) rfl (Nat.le_of_ble_eq_true rfl) hE (fun X A hX hE2 hI hR => ?_)
  show Y X S K A 0 0 [stC S n p a ti ro db st no ru si sp pa] 0 [(0, .ref (a 0))] []
  refine Y_new hX nw_X11_8 ⟨Nat.le_of_ble_eq_true rfl, Nat.le_of_ble_eq_true rfl⟩ dX11_copy_0 (fun q0 => ?_)
  show Y X S K A 1 9 [stC S n p a ti ro db st no ru si sp pa, [(q0, .inr (13, [.null, .null, .int 0, .int 0, .int 0, .int 0, .int 0, .int 0, .null]))]] 3 [(0, .ref (a 0))] [.ref q0]
  refine Y_dup hX dX11_copy_3 rfl ?_
  refine Y_pick [1, 0] (by decide) rfl ?_
  show Y X S K A 1 9 [[(q0, .inr (13, [.null, .null, .int 0, .int 0, .int 0, .int 0, .int 0, .int 0, .null]))], stC S n p a ti ro db st no ru si sp pa] 4 [(0, .ref (a 0))] [.ref q0, .ref q0]
  refine Y_resv hX (sub := [[(q0, .inr (13, [.null, .null, .int 0, .int 0, .int 0, .int 0, .int 0, .int 0, .null]))]]) (rst := [stC S n p a ti ro db st no ru si sp pa]) rfl (Y_runI (As := []) (rest := [.ref q0]) hX hE2 mk_X11_13 nkY_X11_init hE (cY_X11_init hE hF q0) rfl Ecall.same ⟨rfl, rfl⟩ ⟨Nat.le_of_ble_eq_true rfl, Nat.le_of_ble_eq_true rfl⟩ rfl rfl (Nat.le_of_ble_eq_true rfl) dX11_copy_4 ⟨Nat.le_of_ble_eq_true rfl, Nat.le_of_ble_eq_true rfl⟩) (fun u4 => ?_)
  show Y X S K A 1 9 [[(q0, .inr (13, [.null, .null, .int 50, .int 0, .int 0, .int 0, .int 0, .int 0, .null]))], stC S n p a ti ro db st no ru si sp pa] 7 [(0, .ref (a 0))] [.ref q0]
  refine Y_astore_n (lv' := [(1, .ref q0), (0, .ref (a 0))]) hX dX11_copy_7 (by decide) rfl ?_
  refine Y_aload_n hX dX11_copy_8 0 rfl ?_
  refine Y_aload_n hX dX11_copy_9 1 rfl ?_
  refine Y_get 1 0 hX fk_X11_14 rfl rfl rfl dX11_copy_10 ?_
  refine Y_clone (t0 := 0) 1 1 hX ck_X11_18 rfl rfl rfl ⟨rfl, rfl⟩ (fun i v hv => fit_i hv) ⟨Nat.le_of_ble_eq_true rfl, Nat.le_of_ble_eq_true rfl⟩ ⟨Nat.le_of_ble_eq_true rfl, (by show _ ≤ 33; omega)⟩ dX11_copy_13 (fun q1 => ?_)
  show Y X S K A 2 (9 + n) [[(q0, .inr (13, [.null, .null, .int 50, .int 0, .int 0, .int 0, .int 0, .int 0, .null]))], stC S n p a ti ro db st no ru si sp pa, [(q1, .inl (cAr S 0, n, .inl ti))]] 16 [(1, .ref q0), (0, .ref (a 0))] [.ref q1, .ref q0]
  refine Y_castA (t0 := 0) 2 0 hX cl_X11_19 rfl rfl rfl ⟨rfl, rfl⟩ dX11_copy_16 ?_
  refine Y_put 0 0 hX fw_X11_14 rfl rfl ⟨rfl, rfl, Nat.le_of_ble_eq_true rfl⟩ dX11_copy_19 ?_
  show Y X S K A 2 (9 + n) [[(q0, .inr (13, [.ref q1, .null, .int 50, .int 0, .int 0, .int 0, .int 0, .int 0, .null]))], stC S n p a ti ro db st no ru si sp pa, [(q1, .inl (cAr S 0, n, .inl ti))]] 22 [(1, .ref q0), (0, .ref (a 0))] []
  refine Y_aload_n hX dX11_copy_22 0 rfl ?_
  refine Y_aload_n hX dX11_copy_23 1 rfl ?_
  refine Y_get 1 0 hX fk_X11_23 rfl rfl rfl dX11_copy_24 ?_
  refine Y_clone (t0 := 2) 1 2 hX ck_X11_27 rfl rfl rfl ⟨rfl, rfl⟩ (fun i v hv => fit_z hr hv) ⟨Nat.le_of_ble_eq_true rfl, Nat.le_of_ble_eq_true rfl⟩ ⟨Nat.le_of_ble_eq_true rfl, (by show _ ≤ 33; omega)⟩ dX11_copy_27 (fun q2 => ?_)
  show Y X S K A 3 (9 + n + n) [[(q0, .inr (13, [.ref q1, .null, .int 50, .int 0, .int 0, .int 0, .int 0, .int 0, .null]))], stC S n p a ti ro db st no ru si sp pa, [(q1, .inl (cAr S 0, n, .inl ti))], [(q2, .inl (cAr S 2, n, .inl ro))]] 30 [(1, .ref q0), (0, .ref (a 0))] [.ref q2, .ref q0]
  refine Y_castA (t0 := 2) 3 0 hX cl_X11_28 rfl rfl rfl ⟨rfl, rfl⟩ dX11_copy_30 ?_
  refine Y_put 0 0 hX fw_X11_23 rfl rfl ⟨rfl, rfl, Nat.le_of_ble_eq_true rfl⟩ dX11_copy_33 ?_
  show Y X S K A 3 (9 + n + n) [[(q0, .inr (13, [.ref q1, .ref q2, .int 50, .int 0, .int 0, .int 0, .int 0, .int 0, .null]))], stC S n p a ti ro db st no ru si sp pa, [(q1, .inl (cAr S 0, n, .inl ti))], [(q2, .inl (cAr S 2, n, .inl ro))]] 36 [(1, .ref q0), (0, .ref (a 0))] []
  refine Y_aload_n hX dX11_copy_36 0 rfl ?_
  refine Y_aload_n hX dX11_copy_37 1 rfl ?_
  refine Y_get 1 0 hX fk_X11_7 rfl rfl rfl dX11_copy_38 ?_
  refine Y_put 0 0 hX fw_X11_7 rfl rfl ⟨rfl, rfl, Nat.le_of_ble_eq_true rfl⟩ dX11_copy_41 ?_
  show Y X S K A 3 (9 + n + n) [[(q0, .inr (13, [.ref q1, .ref q2, .int st, .int 0, .int 0, .int 0, .int 0, .int 0, .null]))], stC S n p a ti ro db st no ru si sp pa, [(q1, .inl (cAr S 0, n, .inl ti))], [(q2, .inl (cAr S 2, n, .inl ro))]] 44 [(1, .ref q0), (0, .ref (a 0))] []
  refine Y_aload_n hX dX11_copy_44 0 rfl ?_
  refine Y_aload_n hX dX11_copy_45 1 rfl ?_
  refine Y_get 1 0 hX fk_X11_29 rfl rfl rfl dX11_copy_46 ?_
  refine Y_put 0 0 hX fw_X11_29 rfl rfl ⟨rfl, rfl, Nat.le_of_ble_eq_true rfl⟩ dX11_copy_49 ?_
  show Y X S K A 3 (9 + n + n) [[(q0, .inr (13, [.ref q1, .ref q2, .int st, .int no, .int 0, .int 0, .int 0, .int 0, .null]))], stC S n p a ti ro db st no ru si sp pa, [(q1, .inl (cAr S 0, n, .inl ti))], [(q2, .inl (cAr S 2, n, .inl ro))]] 52 [(1, .ref q0), (0, .ref (a 0))] []
  refine Y_aload_n hX dX11_copy_52 0 rfl ?_
  refine Y_aload_n hX dX11_copy_53 1 rfl ?_
  refine Y_get 1 0 hX fk_X11_32 rfl rfl rfl dX11_copy_54 ?_
  refine Y_put 0 0 hX fw_X11_32 rfl rfl ⟨rfl, rfl, Nat.le_of_ble_eq_true rfl⟩ dX11_copy_57 ?_
  show Y X S K A 3 (9 + n + n) [[(q0, .inr (13, [.ref q1, .ref q2, .int st, .int no, .int ru, .int 0, .int 0, .int 0, .null]))], stC S n p a ti ro db st no ru si sp pa, [(q1, .inl (cAr S 0, n, .inl ti))], [(q2, .inl (cAr S 2, n, .inl ro))]] 60 [(1, .ref q0), (0, .ref (a 0))] []
  refine Y_aload_n hX dX11_copy_60 0 rfl ?_
  refine Y_aload_n hX dX11_copy_61 1 rfl ?_
  refine Y_get 1 0 hX fk_X11_35 rfl rfl rfl dX11_copy_62 ?_
  refine Y_put 0 0 hX fw_X11_35 rfl rfl ⟨rfl, rfl, Nat.le_of_ble_eq_true rfl⟩ dX11_copy_65 ?_
  show Y X S K A 3 (9 + n + n) [[(q0, .inr (13, [.ref q1, .ref q2, .int st, .int no, .int ru, .int si, .int 0, .int 0, .null]))], stC S n p a ti ro db st no ru si sp pa, [(q1, .inl (cAr S 0, n, .inl ti))], [(q2, .inl (cAr S 2, n, .inl ro))]] 68 [(1, .ref q0), (0, .ref (a 0))] []
  refine Y_aload_n hX dX11_copy_68 0 rfl ?_
  refine Y_aload_n hX dX11_copy_69 1 rfl ?_
  refine Y_get 1 0 hX fk_X11_38 rfl rfl rfl dX11_copy_70 ?_
  refine Y_put 0 0 hX fw_X11_38 rfl rfl ⟨rfl, rfl, Nat.le_of_ble_eq_true rfl⟩ dX11_copy_73 ?_
  show Y X S K A 3 (9 + n + n) [[(q0, .inr (13, [.ref q1, .ref q2, .int st, .int no, .int ru, .int si, .int sp, .int 0, .null]))], stC S n p a ti ro db st no ru si sp pa, [(q1, .inl (cAr S 0, n, .inl ti))], [(q2, .inl (cAr S 2, n, .inl ro))]] 76 [(1, .ref q0), (0, .ref (a 0))] []
  refine Y_aload_n hX dX11_copy_76 0 rfl ?_
  refine Y_aload_n hX dX11_copy_77 1 rfl ?_
  refine Y_get 1 0 hX fk_X11_41 rfl rfl rfl dX11_copy_78 ?_
  refine Y_put 0 0 hX fw_X11_41 rfl rfl ⟨rfl, rfl, Nat.le_of_ble_eq_true rfl⟩ dX11_copy_81 ?_
  show Y X S K A 3 (9 + n + n) [[(q0, .inr (13, [.ref q1, .ref q2, .int st, .int no, .int ru, .int si, .int sp, .int pa, .null]))], stC S n p a ti ro db st no ru si sp pa, [(q1, .inl (cAr S 0, n, .inl ti))], [(q2, .inl (cAr S 2, n, .inl ro))]] 84 [(1, .ref q0), (0, .ref (a 0))] []
  refine Y_aload_n hX dX11_copy_84 0 rfl ?_
  refine Y_aload_n hX dX11_copy_85 1 rfl ?_
  refine Y_get 1 0 hX fk_X11_44 rfl rfl rfl dX11_copy_86 ?_
  refine Y_clone (t0 := 2) 1 3 hX ck_X11_27 rfl rfl rfl ⟨rfl, rfl⟩ (fun i v hv => fit_z hd hv) ⟨Nat.le_of_ble_eq_true rfl, Nat.le_of_ble_eq_true rfl⟩ ⟨Nat.le_of_ble_eq_true rfl, (by show _ ≤ 33; omega)⟩ dX11_copy_89 (fun q3 => ?_)
  show Y X S K A 4 (9 + n + n + p) [[(q0, .inr (13, [.ref q1, .ref q2, .int st, .int no, .int ru, .int si, .int sp, .int pa, .null]))], stC S n p a ti ro db st no ru si sp pa, [(q1, .inl (cAr S 0, n, .inl ti))], [(q2, .inl (cAr S 2, n, .inl ro))], [(q3, .inl (cAr S 2, p, .inl db))]] 92 [(1, .ref q0), (0, .ref (a 0))] [.ref q3, .ref q0]
  refine Y_castA (t0 := 2) 4 0 hX cl_X11_28 rfl rfl rfl ⟨rfl, rfl⟩ dX11_copy_92 ?_
  refine Y_put 0 0 hX fw_X11_44 rfl rfl ⟨rfl, rfl, Nat.le_of_ble_eq_true rfl⟩ dX11_copy_95 ?_
  show Y X S K A 4 (9 + n + n + p) [[(q0, .inr (13, [.ref q1, .ref q2, .int st, .int no, .int ru, .int si, .int sp, .int pa, .ref q3]))], stC S n p a ti ro db st no ru si sp pa, [(q1, .inl (cAr S 0, n, .inl ti))], [(q2, .inl (cAr S 2, n, .inl ro))], [(q3, .inl (cAr S 2, p, .inl db))]] 98 [(1, .ref q0), (0, .ref (a 0))] []
  refine Y_aload_n hX dX11_copy_98 0 rfl ?_
  refine Y_pick [1, 0, 2, 3, 4] (by decide) rfl ?_
  show Y X S K A 4 (9 + n + n + p) [stC S n p a ti ro db st no ru si sp pa, [(q0, .inr (13, [.ref q1, .ref q2, .int st, .int no, .int ru, .int si, .int sp, .int pa, .ref q3]))], [(q1, .inl (cAr S 0, n, .inl ti))], [(q2, .inl (cAr S 2, n, .inl ro))], [(q3, .inl (cAr S 2, p, .inl db))]] 99 [(1, .ref q0), (0, .ref (a 0))] [.ref q0]
  refine Y_fl (bl' := [stC S n p a ti ro db st no ru si sp pa, stC S n p (ad4 q0 q1 q2 q3) ti ro db st no ru si sp pa]) rfl ?_
  refine Y_wd (kc' := 4) (kn' := 33) (Nat.le_of_ble_eq_true rfl) (by omega) ?_
  exact hR (ad4 q0 q1 q2 q3) _ _ dX11_copy_99
abbrev rmY_X11_bits : Room := { frames := 0, cells := 0, slots := 0, locals := 0 }
set_option maxHeartbeats 4000000 in
theorem cY_X11_bits {S : Sx} {K : Kx} {E : Ex} (hE : Stb E) (hF : ∀ (A : Nat → Prop) (s : State), E A s → KF S K A s s.heap) (n p : Nat) (a : Nat → Nat) (ti ro db : Nat → Int32) (st no ru si sp pa : Int32) (hn : n ≤ 8) (hp : p ≤ 8) : CY S K E yX11_bits cX11_bits 3 (some .int) rmY_X11_bits [.ref (a 0)] ([stC S n p a ti ro db st no ru si sp pa]) (QYi S ([stC S n p a ti ro db st no ru si sp pa]) (bitsL ro n) (fun _ => [stC S n p a ti ro db st no ru si sp pa])) 0 0 := by
  refine y_meti (own := RX11) (by decide +kernel) rfl (Nat.le_of_ble_eq_true rfl) hE (fun X A hX hE2 hI hR => ?_)
  have loop : ∀ (m k : Nat), k + m = n → Y X S K A 0 0 [stC S n p a ti ro db st no ru si sp pa] 4 [(2, .int (nI k)), (1, .int (bitsL ro k)), (0, .ref (a 0))] [] := by
    intro m
    induction m with
    | zero =>
      intro k hk
      have hk2 : k = n := by omega
      subst hk2
      refine Y_iload_n hX dX11_bits_4 0 rfl ?_
      refine Y_aload_n hX dX11_bits_5 2 rfl ?_
      refine Y_get 0 0 hX fk_X11_23 rfl rfl rfl dX11_bits_6 ?_
      refine Y_alen (t0 := 2) (v := nI k) 0 2 hX rfl rfl rfl rfl dX11_bits_9 ?_
      refine Y_icmp_ge (tgt := 34) hX dX11_bits_10 (by decide) (fun _ => ?_) (fun z => absurd (nI_le (Nat.le_refl _) (by omega)) z)
      refine Y_iload_n hX dX11_bits_34 1 rfl ?_
      exact hR (fun _ => 0) _ _ rfl dX11_bits_35
    | succ m ih =>
      intro k hk
      refine Y_iload_n hX dX11_bits_4 0 rfl ?_
      refine Y_aload_n hX dX11_bits_5 2 rfl ?_
      refine Y_get 0 0 hX fk_X11_23 rfl rfl rfl dX11_bits_6 ?_
      refine Y_alen (t0 := 2) (v := nI n) 0 2 hX rfl rfl rfl rfl dX11_bits_9 ?_
      refine Y_icmp_ge (tgt := 34) hX dX11_bits_10 (by decide) (fun z => absurd z (nI_ge (show k < n by omega) (by omega))) (fun _ => ?_)
      refine Y_aload_n hX dX11_bits_13 2 rfl ?_
      refine Y_get 0 0 hX fk_X11_23 rfl rfl rfl dX11_bits_14 ?_
      refine Y_iload_n hX dX11_bits_17 0 rfl ?_
      refine Y_zald (v := ro k) 0 2 hX rfl rfl (vp_in_nI (by omega) (by omega)) (at8 (by omega)) dX11_bits_18 ?_
      refine Y_if_eq (tgt := 28) hX dX11_bits_19 (by decide) (fun h19 => ?_) (fun h19 => ?_)
      · refine Y_iinc (v := nI (k + 1)) (lv' := [(2, .int (nI (k + 1))), (1, .int (bitsL ro k)), (0, .ref (a 0))]) hX dX11_bits_28 (j := 0) rfl (by decide) (iinc1 k) rfl ?_
        refine Y_goto (tgt := 4) hX dX11_bits_31 (by decide) ?_
        have z := ih (k + 1) (by omega)
        rw [show bitsL ro (k + 1) = bitsL ro k from if_pos h19] at z
        exact z
      · refine Y_iload_n hX dX11_bits_22 1 rfl ?_
        refine Y_iconst (v := 1) hX dX11_bits_23 (by decide) ?_
        refine Y_iload_n hX dX11_bits_24 0 rfl ?_
        refine Y_ishl hX dX11_bits_25 ?_
        refine Y_ior hX dX11_bits_26 ?_
        refine Y_istore_n (lv' := [(1, .int ((bitsL ro k) ||| (ishlI 1 (nI k)))), (2, .int (nI k)), (0, .ref (a 0))]) hX dX11_bits_27 (by decide) rfl ?_
        refine Y_iinc (v := nI (k + 1)) (lv' := [(2, .int (nI (k + 1))), (1, .int ((bitsL ro k) ||| (ishlI 1 (nI k)))), (0, .ref (a 0))]) hX dX11_bits_28 (j := 1) rfl (by decide) (iinc1 k) rfl ?_
        refine Y_goto (tgt := 4) hX dX11_bits_31 (by decide) ?_
        have z := ih (k + 1) (by omega)
        rw [show bitsL ro (k + 1) = bitsL ro k ||| ishlI 1 (nI k) from if_neg h19] at z
        exact z
  show Y X S K A 0 0 [stC S n p a ti ro db st no ru si sp pa] 0 [(0, .ref (a 0))] []
  refine Y_iconst (v := 0) hX dX11_bits_0 (by decide) ?_
  refine Y_istore_n (lv' := [(1, .int 0), (0, .ref (a 0))]) hX dX11_bits_1 (by decide) rfl ?_
  refine Y_iconst (v := 0) hX dX11_bits_2 (by decide) ?_
  refine Y_istore_n (lv' := [(2, .int 0), (1, .int 0), (0, .ref (a 0))]) hX dX11_bits_3 (by decide) rfl ?_
  exact loop n 0 (by omega)
abbrev rmY_X11_doubt : Room := { frames := 0, cells := 0, slots := 0, locals := 0 }
set_option maxHeartbeats 4000000 in
theorem cY_X11_doubt {S : Sx} {K : Kx} {E : Ex} (hE : Stb E) (hF : ∀ (A : Nat → Prop) (s : State), E A s → KF S K A s s.heap) (n p : Nat) (a : Nat → Nat) (ti ro db : Nat → Int32) (st no ru si sp pa : Int32) (hn : n ≤ 8) (hp : p ≤ 8) : CY S K E yX11_doubt cX11_doubt 3 (some .int) rmY_X11_doubt [.ref (a 0)] ([stC S n p a ti ro db st no ru si sp pa]) (QYi S ([stC S n p a ti ro db st no ru si sp pa]) (bitsL db p) (fun _ => [stC S n p a ti ro db st no ru si sp pa])) 0 0 := by
  refine y_meti (own := RX11) (by decide +kernel) rfl (Nat.le_of_ble_eq_true rfl) hE (fun X A hX hE2 hI hR => ?_)
  have loop : ∀ (m k : Nat), k + m = p → Y X S K A 0 0 [stC S n p a ti ro db st no ru si sp pa] 4 [(2, .int (nI k)), (1, .int (bitsL db k)), (0, .ref (a 0))] [] := by
    intro m
    induction m with
    | zero =>
      intro k hk
      have hk2 : k = p := by omega
      subst hk2
      refine Y_iload_n hX dX11_doubt_4 0 rfl ?_
      refine Y_aload_n hX dX11_doubt_5 2 rfl ?_
      refine Y_get 0 0 hX fk_X11_44 rfl rfl rfl dX11_doubt_6 ?_
      refine Y_alen (t0 := 2) (v := nI k) 0 3 hX rfl rfl rfl rfl dX11_doubt_9 ?_
      refine Y_icmp_ge (tgt := 34) hX dX11_doubt_10 (by decide) (fun _ => ?_) (fun z => absurd (nI_le (Nat.le_refl _) (by omega)) z)
      refine Y_iload_n hX dX11_doubt_34 1 rfl ?_
      exact hR (fun _ => 0) _ _ rfl dX11_doubt_35
    | succ m ih =>
      intro k hk
      refine Y_iload_n hX dX11_doubt_4 0 rfl ?_
      refine Y_aload_n hX dX11_doubt_5 2 rfl ?_
      refine Y_get 0 0 hX fk_X11_44 rfl rfl rfl dX11_doubt_6 ?_
      refine Y_alen (t0 := 2) (v := nI p) 0 3 hX rfl rfl rfl rfl dX11_doubt_9 ?_
      refine Y_icmp_ge (tgt := 34) hX dX11_doubt_10 (by decide) (fun z => absurd z (nI_ge (show k < p by omega) (by omega))) (fun _ => ?_)
      refine Y_aload_n hX dX11_doubt_13 2 rfl ?_
      refine Y_get 0 0 hX fk_X11_44 rfl rfl rfl dX11_doubt_14 ?_
      refine Y_iload_n hX dX11_doubt_17 0 rfl ?_
      refine Y_zald (v := db k) 0 3 hX rfl rfl (vp_in_nI (by omega) (by omega)) (at8 (by omega)) dX11_doubt_18 ?_
      refine Y_if_eq (tgt := 28) hX dX11_doubt_19 (by decide) (fun h19 => ?_) (fun h19 => ?_)
      · refine Y_iinc (v := nI (k + 1)) (lv' := [(2, .int (nI (k + 1))), (1, .int (bitsL db k)), (0, .ref (a 0))]) hX dX11_doubt_28 (j := 0) rfl (by decide) (iinc1 k) rfl ?_
        refine Y_goto (tgt := 4) hX dX11_doubt_31 (by decide) ?_
        have z := ih (k + 1) (by omega)
        rw [show bitsL db (k + 1) = bitsL db k from if_pos h19] at z
        exact z
      · refine Y_iload_n hX dX11_doubt_22 1 rfl ?_
        refine Y_iconst (v := 1) hX dX11_doubt_23 (by decide) ?_
        refine Y_iload_n hX dX11_doubt_24 0 rfl ?_
        refine Y_ishl hX dX11_doubt_25 ?_
        refine Y_ior hX dX11_doubt_26 ?_
        refine Y_istore_n (lv' := [(1, .int ((bitsL db k) ||| (ishlI 1 (nI k)))), (2, .int (nI k)), (0, .ref (a 0))]) hX dX11_doubt_27 (by decide) rfl ?_
        refine Y_iinc (v := nI (k + 1)) (lv' := [(2, .int (nI (k + 1))), (1, .int ((bitsL db k) ||| (ishlI 1 (nI k)))), (0, .ref (a 0))]) hX dX11_doubt_28 (j := 1) rfl (by decide) (iinc1 k) rfl ?_
        refine Y_goto (tgt := 4) hX dX11_doubt_31 (by decide) ?_
        have z := ih (k + 1) (by omega)
        rw [show bitsL db (k + 1) = bitsL db k ||| ishlI 1 (nI k) from if_neg h19] at z
        exact z
  show Y X S K A 0 0 [stC S n p a ti ro db st no ru si sp pa] 0 [(0, .ref (a 0))] []
  refine Y_iconst (v := 0) hX dX11_doubt_0 (by decide) ?_
  refine Y_istore_n (lv' := [(1, .int 0), (0, .ref (a 0))]) hX dX11_doubt_1 (by decide) rfl ?_
  refine Y_iconst (v := 0) hX dX11_doubt_2 (by decide) ?_
  refine Y_istore_n (lv' := [(2, .int 0), (1, .int 0), (0, .ref (a 0))]) hX dX11_doubt_3 (by decide) rfl ?_
  exact loop p 0 (by omega)
