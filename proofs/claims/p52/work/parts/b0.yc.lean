-- ===== calls on the class's object =====
theorem fst_ws (S : Sx) (w w2 : Wd) : (wsOf S w).map Prod.fst = (wsOf S w2).map Prod.fst := by
  apply List.ext_getElem?
  intro i
  unfold wsOf
  rw [List.getElem?_map, List.getElem?_map, List.getElem?_mapIdx, List.getElem?_mapIdx]
  cases (tab S)[i]? <;> rfl
theorem vaD_fst {A : Nat → Prop} {ws ws' rest : va_W} (h : ws.map Prod.fst = ws'.map Prod.fst) (hD : va_D A (ws ++ rest)) : va_D A (ws' ++ rest) := by
  have e : (ws ++ rest).map Prod.fst = (ws' ++ rest).map Prod.fst := by rw [List.map_append, List.map_append, h]
  obtain ⟨d1, d2⟩ := vaD_iff.mp hD
  refine vaD_iff.mpr ⟨?_, fun q hq => ?_⟩
  · have z : ((ws ++ rest).map Prod.fst).Pairwise (fun a b => a ≠ b) := List.pairwise_map.mpr d1
    rw [e] at z
    exact List.pairwise_map.mp z
  · have m : q.1 ∈ (ws' ++ rest).map Prod.fst := List.mem_map_of_mem hq
    rw [← e] at m
    obtain ⟨x, hx, ex⟩ := List.mem_map.mp m
    rw [← ex]
    exact d2 x hx
theorem ws_at (S : Sx) (w : Wd) {i : Nat} (hi : i < NC) : ∃ e, (wsOf S w)[i]? = some (adr S i, e) := by
  have hl : i < (tab S).length := by rw [tab_len]; exact hi
  exact ⟨_, wsOf_get (List.getElem?_eq_getElem hl)⟩
theorem ws_inj {A : Nat → Prop} {S : Sx} {w : Wd} {rest : va_W} (hD : va_D A (wsOf S w ++ rest)) : ∀ i j, i < NC → j < NC → adr S i = adr S j → i = j := by
  intro i j hi hj e
  obtain ⟨x, hx⟩ := ws_at S w hi
  obtain ⟨y, hy⟩ := ws_at S w hj
  have lx := (List.getElem?_eq_some_iff.mp hx).1
  have ly := (List.getElem?_eq_some_iff.mp hy).1
  exact hD.1 i j _ _ (by rw [List.getElem?_append_left lx]; exact hx) (by rw [List.getElem?_append_left ly]; exact hy) e
theorem Aw_in {A : Nat → Prop} {S : Sx} {w : Wd} {rest : va_W} (hD : va_D A (wsOf S w ++ rest)) : ∀ q, Aw S q → A q := by
  rintro q ⟨i, hi, rfl⟩
  obtain ⟨x, hx⟩ := ws_at S w hi
  exact (vaD_iff.mp hD).2 _ (List.mem_append_left _ (List.mem_of_getElem? hx))
theorem ws_in {S : Sx} {w : Wd} {x : Nat × va_E} (h : x ∈ wsOf S w) : Aw S x.1 := by
  obtain ⟨i, hi⟩ := List.getElem?_of_mem h
  have hl : i < NC := by
    have := (List.getElem?_eq_some_iff.mp hi).1
    unfold wsOf at this
    rw [List.length_mapIdx, tab_len] at this
    exact this
  obtain ⟨e, he⟩ := ws_at S w hl
  rw [he] at hi
  exact ⟨i, hl, by rw [← Option.some.inj hi]⟩
theorem Sw_of {S : Sx} {K : Kx} {A B : Nat → Prop} {U : State} {w : Wd} {rest : va_W} (hK : va_K S.1 vwCl (tyY S K) U) (hD : va_D A (wsOf S w ++ rest)) (h : KF S K B U U.heap) (hB : ∀ q, Aw S q → B q) : Sw S U :=
  ⟨hK.sub [0, 1, 2, 3] rfl, ws_inj hD, h.1.narrow hB, h.2.1, h.2.2.1.narrow hB, h.2.2.2.1.narrow hB⟩
/-- behind a call on the class's object: its world has become another, all else stays -/
theorem va_mid3 {A0 : Nat → Prop} {S : Sx} {w w2 : Wd} {ws2 : va_W} {H H1 : Heap} (hP : va_P S.1 vwCl (wsOf S w ++ ws2) H) (hD : va_D A0 (wsOf S w ++ ws2)) (hk : ∀ x : Nat, x < H.size → ¬ Aw S x → H1[x]? = H[x]?) (hP1 : va_P S.1 vwCl (wsOf S w2) H1) : va_P S.1 vwCl (wsOf S w2 ++ ws2) H1 ∧ va_D A0 (wsOf S w2 ++ ws2) := by
  obtain ⟨d1, d2⟩ := vaD_iff.mp hD
  obtain ⟨f1, f2, f3⟩ := List.pairwise_append.mp d1
  refine ⟨vaP_iff.mpr (fun x hx => ?_), vaD_fst (fst_ws S w w2) hD⟩
  rcases List.mem_append.mp hx with h | h
  · exact vaP_iff.mp hP1 x h
  · have hx2 := vaP_iff.mp hP x (List.mem_append_right _ h)
    refine hx2.kept (hk x.1 hx2.lt ?_)
    rintro ⟨i, hi, e⟩
    obtain ⟨y, hy⟩ := ws_at S w hi
    exact f3 _ (List.mem_of_getElem? hy) x h e.symm
section YCL
variable {X : Cx} {S : Sx} {K : Kx} {A : Nat → Prop} {E : Ex} {kc kn : Nat} {bl rst : Bk} {cc : ByteArray} {own : String} {nL : Nat} {rm : Room} {pc : Nat} {lv : List (Nat × Value)} {st rest As : List Value} {w w2 : Wd}
theorem yc_pre {p : Program} {l : Launch} {e : Env} {R : Room} {s : State} {m : MethodId} {args : Array Value} {below : List Frame} {meth : Method} {c : Code} {Q : State → Prop} {H : Heap} {locs : List Loc} (hX : Yok (p, l, e, R, s, m, args, below, meth, c, Q) S K A cc own nL rm) (hE : YE (p, l, e, R, s, m, args, below, meth, c, Q) A E) (hF : ∀ (A : Nat → Prop) (s : State), E A s → KF S K A s s.heap) (hP : va_P S.1 vwCl (wsOf S w ++ rst.flatten) H) (hD : va_D A (wsOf S w ++ rst.flatten)) (hS : va_S A s.heap H locs) (U : State) (hU : U.heap = H) (hW : s.WarmedH U.vm) : va_P S.1 vwCl (wsOf S w) U.heap ∧ Sw S U ∧ NX U ∧ NU S U U.heap := by
  subst hU
  obtain ⟨h1, h2, h3, rfl, h5, h6, h7, h8, h9⟩ := hX
  have hA := Aw_in hD
  have hE2 := hE.1.1 A (Aw S) s U hE.2.1 hW (fun q a b => hS.2.1 q a b) hA
  have hk := hF _ _ hE2
  exact ⟨vaP_iff.mpr fun x hx => vaP_iff.mp hP x (List.mem_append_left _ hx), Sw_of (va_K.moved hW.alike h7) hD hk (fun _ z => z), hk.nx, hk.2.2.2.2.2.2.2.2.2.2.2.2.2.1, hk.2.2.2.2.2.2.2.2.2.2.2.2.2.2⟩
theorem Y_callCi {index maxL n i ci : Nat} {C : String} {T : u_T} {N : Nat} {fs : (Nat → Int32) → (Nat → Int64) → (Nat → Nat) → List Value} {y : MethodName} {bytes : ByteArray} {ret : Option FieldType} {rmc : Room} {v : Int32} (hX : Yok X S K A cc own nL rm) (hE : YE X A E) (hF : ∀ (A : Nat → Prop) (s : State), E A s → KF S K A s s.heap) (hk : MVk own index C y bytes maxL ret) (hy : MNk y C n) (hM : ∀ l, Met l y (wsg y bytes maxL ret) rmc (PC S w (rf S i :: As)) (QCi S (v, w2)) 0 0 (Aw S)) (hbl : bl = wsOf S w :: rst) (ht : (tab S)[i]? = some (cO ci fs)) (hc : vwCl[ci]? = some (C, T, N)) (hR : RMk rmc rm maxL) (hn : As.length = n) (hst : st = As.reverse ++ rf S i :: rest) (hW : (rest.map fun v => v.category).sum ≤ 8) (d : decode cc pc = .ok (.invokevirtual index, 3)) (hkc : kc ≤ rm.cells ∧ kn ≤ rm.slots) (kk : Y X S K A kc kn (wsOf S w2 :: rst) (pc + 3) lv (.int v :: rest)) : Y X S K A kc kn bl pc lv st := by
  subst hst
  subst hbl
  obtain ⟨p, l, e, R, s, m, args, below, meth, c, Q⟩ := X
  intro H locs ls hP hD hS hl
  rw [List.flatten_cons] at hP hD
  have pre := fun U hU hW => yc_pre hX hE hF hP hD hS U hU hW
  obtain ⟨h1, h2, h3, rfl, h5, h6, h7, h8, h9⟩ := hX
  obtain ⟨r1, r2, r3, r4⟩ := hR
  obtain ⟨y1, y2, y3, y4⟩ := hy
  have hq := wsOf_get (w := w) ht
  have hl2 := (List.getElem?_eq_some_iff.mp hq).1
  refine va_calli (va_runV (As := As) (rest := rest) ⟨h1, h2, h3, h5, h6⟩ (hM l) (cwV n h6 (wsV_in hk) rfl r1 r2 ⟨y1, y2, y3, y4⟩ ⟨r3, r4⟩) ⟨PC.blind, va_recv h7 hP hc (by rw [List.getElem?_append_left hl2]; exact hq), fun U hU hW => ⟨rfl, (pre U hU hW).1, (pre U hU hW).2.1⟩⟩ rfl hn (hl.1.trans h3) rfl (lv_room hW) d ⟨hkc.1, hkc.2⟩) hS (fun q _ h => Aw_in hD q h) (fun q h => Aw_in hD q h) (fun r u t H1 locs1 ht2 hvm hp hb hz hk2 hS1 => ?_)
  cases hp
  have hb2 : va_P S.1 vwCl (wsOf S w2) H1 := by rw [← ht2]; exact hb
  obtain ⟨hP2, hD2⟩ := va_mid3 hP hD hk2 hb2
  exact kk H1 locs1 ls (by rw [List.flatten_cons]; exact hP2) (by rw [List.flatten_cons]; exact hD2) hS1 hl
/-- the bench's own readers, which catch what the class throws -/
theorem Y_callWi {index maxL n : Nat} {y : MethodName} {bytes : ByteArray} {ret : Option FieldType} {hh : List (Nat × Nat × Nat × Nat)} {rmc : Room} {v : Int32} (hX : Yok X S K A cc own nL rm) (hE : YE X A E) (hF : ∀ (A : Nat → Prop) (s : State), E A s → KF S K A s s.heap) (hk : MWk own index y bytes maxL ret hh) (hy : MNk y y.cls n) (hM : ∀ l, l.stackTraces = false → Met l y (Cond.codeWith y bytes maxL ret hh :: wall) rmc (PX S w As) (QCi S (v, w2)) 1 6 (Aw S)) (hbl : bl = wsOf S w :: rst) (hR : rmc.cells = 1 ∧ rmc.slots = 6 ∧ rmc.frames + 1 ≤ rm.frames ∧ 8 + (maxL + 11) + rmc.locals ≤ rm.locals) (hn : As.length = n) (hst : st = As.reverse ++ rest) (hW : (rest.map fun v => v.category).sum ≤ 8) (d : decode cc pc = .ok (.invokestatic index, 3)) (hkc : kc + 1 ≤ rm.cells ∧ kn + 6 ≤ rm.slots) (kk : Y X S K A (kc + 1) (kn + 6) (wsOf S w2 :: rst) (pc + 3) lv (.int v :: rest)) : Y X S K A kc kn bl pc lv st := by
  subst hst
  subst hbl
  obtain ⟨p, l, e, R, s, m, args, below, meth, c, Q⟩ := X
  intro H locs ls hP hD hS hl
  rw [List.flatten_cons] at hP hD
  have pre := fun U hU hW => yc_pre hX hE hF hP hD hS U hU hW
  obtain ⟨h1, h2, h3, rfl, h5, h6, h7, h8, h9⟩ := hX
  obtain ⟨r1, r2, r3, r4⟩ := hR
  obtain ⟨y1, y2, y3, y4⟩ := hy
  refine va_calli (vx_runSW (As := As) (rest := rest) ⟨h1, h2, h3, h5, h6⟩ (hM l hE.2.2) (vx_cwSW n h6 (wsW_in hk) rfl r1 r2 ⟨y2, y3, y4⟩ ⟨r3, r4⟩) ⟨PX.blind, fun U hU hW => ⟨rfl, pre U hU hW⟩⟩ rfl hn (hl.1.trans h3) rfl (lv_room hW) d hkc) hS (fun q _ h => Aw_in hD q h) (fun q h => Aw_in hD q h) (fun r u t H1 locs1 ht2 hvm hp hb hz hk2 hS1 => ?_)
  cases hp
  have hb2 : va_P S.1 vwCl (wsOf S w2) H1 := by rw [← ht2]; exact hb
  obtain ⟨hP2, hD2⟩ := va_mid3 hP hD hk2 hb2
  exact kk H1 locs1 ls (by rw [List.flatten_cons]; exact hP2) (by rw [List.flatten_cons]; exact hD2) hS1 hl
theorem Y_callWl {index maxL n : Nat} {y : MethodName} {bytes : ByteArray} {ret : Option FieldType} {hh : List (Nat × Nat × Nat × Nat)} {rmc : Room} {v : Int64} (hX : Yok X S K A cc own nL rm) (hE : YE X A E) (hF : ∀ (A : Nat → Prop) (s : State), E A s → KF S K A s s.heap) (hk : MWk own index y bytes maxL ret hh) (hy : MNk y y.cls n) (hM : ∀ l, l.stackTraces = false → Met l y (Cond.codeWith y bytes maxL ret hh :: wall) rmc (PX S w As) (QCl S (v, w2)) 1 6 (Aw S)) (hbl : bl = wsOf S w :: rst) (hR : rmc.cells = 1 ∧ rmc.slots = 6 ∧ rmc.frames + 1 ≤ rm.frames ∧ 8 + (maxL + 11) + rmc.locals ≤ rm.locals) (hn : As.length = n) (hst : st = As.reverse ++ rest) (hW : (rest.map fun v => v.category).sum ≤ 8) (d : decode cc pc = .ok (.invokestatic index, 3)) (hkc : kc + 1 ≤ rm.cells ∧ kn + 6 ≤ rm.slots) (kk : Y X S K A (kc + 1) (kn + 6) (wsOf S w2 :: rst) (pc + 3) lv (.long v :: rest)) : Y X S K A kc kn bl pc lv st := by
  subst hst
  subst hbl
  obtain ⟨p, l, e, R, s, m, args, below, meth, c, Q⟩ := X
  intro H locs ls hP hD hS hl
  rw [List.flatten_cons] at hP hD
  have pre := fun U hU hW => yc_pre hX hE hF hP hD hS U hU hW
  obtain ⟨h1, h2, h3, rfl, h5, h6, h7, h8, h9⟩ := hX
  obtain ⟨r1, r2, r3, r4⟩ := hR
  obtain ⟨y1, y2, y3, y4⟩ := hy
  refine va_calll (vx_runSW (As := As) (rest := rest) ⟨h1, h2, h3, h5, h6⟩ (hM l hE.2.2) (vx_cwSW n h6 (wsW_in hk) rfl r1 r2 ⟨y2, y3, y4⟩ ⟨r3, r4⟩) ⟨PX.blind, fun U hU hW => ⟨rfl, pre U hU hW⟩⟩ rfl hn (hl.1.trans h3) rfl (lv_room hW) d hkc) hS (fun q _ h => Aw_in hD q h) (fun q h => Aw_in hD q h) (fun r u t H1 locs1 ht2 hvm hp hb hz hk2 hS1 => ?_)
  cases hp
  have hb2 : va_P S.1 vwCl (wsOf S w2) H1 := by rw [← ht2]; exact hb
  obtain ⟨hP2, hD2⟩ := va_mid3 hP hD hk2 hb2
  exact kk H1 locs1 ls (by rw [List.flatten_cons]; exact hP2) (by rw [List.flatten_cons]; exact hD2) hS1 hl
end YCL
