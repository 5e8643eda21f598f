-- ===== calls of a class above's methods =====
/-- a private method of a class above is found on an object of the class: by another of its methods that is -/
theorem sel_priv {C : String} {x0 y : MethodName} {s : State} {args : Array Value} (h0 : (Cond.selects C x0 x0).before args s = true) (hc : x0.cls = y.cls) (hy : y.cls ≠ "java/lang/invoke/MethodHandle" ∧ y.cls ≠ "java/lang/invoke/VarHandle") (h1 : (Cond.privateMethod y).before args s = true) (h2 : (Cond.instanceMethod y).before args s = true) : (Cond.selects C y y).before args s = true := by
  obtain ⟨cC, r0, m0, f1, -, f3, -, kk, g1, g2⟩ := Cond.selects_spec h0
  obtain ⟨my, mt, n1, n2, -, -⟩ := Cond.instanceMethod_spec h2
  have e0 := findClass_of_methodNamed f3
  rw [hc] at e0
  have e1 : my.cls = m0.cls := Option.some.inj ((findClass_of_methodNamed n1).symm.trans e0)
  have e2 : selectMethod {} s.vm cC my = .method my := selectMethod_private n2 (Cond.privateMethod_at h1 my mt n1 n2)
  simp only [Cond.before, Cond.holds, Cond.value, f1, State.methodFound?_of_named n1 hy, n1, e2, e1, g1]
  simp
  exact g2
/-- what a call of an inherited method asks -/
def MUk (Z : State → Prop) (own : String) (index : Nat) (C owner : String) (x y : MethodName) (bytes : ByteArray) (maxL : Nat) (ret : Option FieldType) (n : Nat) : Prop := ∀ (R : Room) (s : State) (args : Array Value) (rm : Room), (∀ w ∈ wall, w.before args s = true) → Z s → rm.frames + 1 ≤ R.frames ∧ 8 + (maxL + 11) + rm.locals ≤ R.locals → va_CU R s args own C owner index x y bytes maxL ret (wsg y bytes maxL ret) rm rm.cells rm.slots n
theorem good_cons {T : List Cond} {ws ws2 : List Cond} (h1 : ∀ w ∈ ws, w ∈ T ∧ goodWord w = true) (h2 : GoodIn T ws2) : GoodIn T (ws ++ ws2) := by
  intro w hw
  rcases List.mem_append.mp hw with h | h
  · exact ⟨(h1 w h).1, good_of_word (h1 w h).2⟩
  · exact h2 w h
theorem good_more {T T2 ws : List Cond} (h : GoodIn T ws) (hT : ∀ w ∈ T, w ∈ T2) : GoodIn T2 ws := fun w hw => ⟨hT _ (h w hw).1, (h w hw).2⟩
theorem MUk.pub {own C : String} {index n maxL : Nat} {x : MethodName} {bytes : ByteArray} {ret : Option FieldType} (k1 : Cond.methodLink own index x ∈ wall) (k2 : Cond.sameMethod x.cls x.cls x.name x.desc ∈ wall) (k3 : Cond.selects C x x ∈ wall) (k4 : Cond.instanceMethod x ∈ wall) (k5 : Cond.initialized x.cls ∈ wall) (k6 : Cond.code x bytes maxL ret ∈ wall) (hd : x.cls ≠ "java/lang/invoke/MethodHandle" ∧ x.cls ≠ "java/lang/invoke/VarHandle" ∧ (parseMethodDescriptor x.desc).map (fun d => d.parameters.length) = some n) : MUk (fun _ => True) own index C x.cls x x bytes maxL ret n := by
  intro R s args rm h6 _ hR
  refine va_cwU n h6 (good_cons (fun w hw => ?_) (wall_to k6)) rfl rfl rfl rfl hd hR
  simp only [List.mem_cons, List.not_mem_nil, or_false] at hw
  rcases hw with rfl | rfl | rfl | rfl | rfl
  · exact ⟨k1, wall_good k1⟩
  · exact ⟨k2, wall_good k2⟩
  · exact ⟨k3, wall_good k3⟩
  · exact ⟨k4, wall_good k4⟩
  · exact ⟨k5, wall_good k5⟩
theorem MUk.ovr {own C owner : String} {index n maxL m0 : Nat} {x y : MethodName} {bytes b0 : ByteArray} {ret r0 : Option FieldType} (k1 : Cond.methodLink own index x ∈ wall) (k2 : Cond.sameMethod x.cls owner x.name x.desc ∈ wall) (k0 : Cond.instanceMethod ⟨owner, x.name, x.desc⟩ ∈ wall) (k3 : Cond.selects C x y ∈ wall) (k4 : Cond.instanceMethod y ∈ wall) (k5 : Cond.initialized y.cls ∈ wall) (k6 : Cond.code y bytes maxL ret ∈ wall) (k7 : Cond.code ⟨owner, x.name, x.desc⟩ b0 m0 r0 ∈ wall) (hd : owner ≠ "java/lang/invoke/MethodHandle" ∧ owner ≠ "java/lang/invoke/VarHandle" ∧ (parseMethodDescriptor x.desc).map (fun d => d.parameters.length) = some n) : MUk (fun _ => True) own index C owner x y bytes maxL ret n := by
  intro R s args rm h6 _ hR
  refine va_cwO n h6 (good_cons (fun w hw => ?_) (wall_to k6)) rfl rfl rfl k7 hd hR
  simp only [List.mem_cons, List.not_mem_nil, or_false] at hw
  rcases hw with rfl | rfl | rfl | rfl | rfl | rfl
  · exact ⟨k1, wall_good k1⟩
  · exact ⟨k2, wall_good k2⟩
  · exact ⟨k0, wall_good k0⟩
  · exact ⟨k3, wall_good k3⟩
  · exact ⟨k4, wall_good k4⟩
  · exact ⟨k5, wall_good k5⟩
/-- the private methods that are found on a StringBuilder -/
def pyl : List MethodName := [yJ5_ensureCapacityInternal_d00df, yJ5_putStringAt_47b60, yJ5_inflateIfNeededFor_a7421]
def PVs (s : State) : Prop := ∀ y, y ∈ pyl → (Cond.selects RJ4 y y).before #[] s = true
theorem MUk.priv {own : String} {index n maxL : Nat} {x : MethodName} {bytes : ByteArray} {ret : Option FieldType} (k1 : Cond.methodLink own index x ∈ wall) (k2 : Cond.sameMethod x.cls x.cls x.name x.desc ∈ wall) (hy : x ∈ pyl) (k4 : Cond.instanceMethod x ∈ wall) (k5 : Cond.initialized x.cls ∈ wall) (k6 : Cond.code x bytes maxL ret ∈ wall) (hg : goodWord (Cond.selects RJ4 x x) = true) (hd : x.cls ≠ "java/lang/invoke/MethodHandle" ∧ x.cls ≠ "java/lang/invoke/VarHandle" ∧ (parseMethodDescriptor x.desc).map (fun d => d.parameters.length) = some n) : MUk PVs own index RJ4 x.cls x x bytes maxL ret n := by
  intro R s args rm h6 hV hR
  have h6' : ∀ w ∈ Cond.selects RJ4 x x :: wall, w.before args s = true := fun w hw => by
    rcases List.mem_cons.mp hw with rfl | h
    · exact va_any rfl (hV x hy)
    · exact h6 w h
  refine va_cwU n h6' (good_cons (fun w hw => ?_) (good_more (wall_to k6) (fun w hw => List.mem_cons_of_mem _ hw))) rfl rfl rfl rfl hd hR
  simp only [List.mem_cons, List.not_mem_nil, or_false] at hw
  rcases hw with rfl | rfl | rfl | rfl | rfl
  · exact ⟨List.mem_cons_of_mem _ k1, wall_good k1⟩
  · exact ⟨List.mem_cons_of_mem _ k2, wall_good k2⟩
  · exact ⟨List.mem_cons_self, hg⟩
  · exact ⟨List.mem_cons_of_mem _ k4, wall_good k4⟩
  · exact ⟨List.mem_cons_of_mem _ k5, wall_good k5⟩
theorem PVs.of {s : State} {args : Array Value} (h : ∀ w ∈ lw_tbl, w.before args s = true) : PVs s := by
  intro y hy
  have key : ∀ y, y ∈ pyl → Cond.selects RJ4 yJ5_isLatin1_aae02 yJ5_isLatin1_aae02 ∈ lw_tbl → Cond.privateMethod y ∈ lw_tbl → Cond.instanceMethod y ∈ lw_tbl → yJ5_isLatin1_aae02.cls = y.cls → y.cls ≠ "java/lang/invoke/MethodHandle" ∧ y.cls ≠ "java/lang/invoke/VarHandle" → (Cond.selects RJ4 y y).before #[] s = true := fun y hy k0 k1 k2 e hd => va_any rfl (sel_priv (h _ k0) e hd (h _ k1) (h _ k2))
  simp only [pyl, List.mem_cons, List.not_mem_nil, or_false] at hy
  rcases hy with rfl | rfl | rfl
  · exact key yJ5_ensureCapacityInternal_d00df (by simp [pyl]) (pc3 _ (List.mem_of_getElem? (i := 178) (by decide +kernel))) (pc3 _ (List.mem_of_getElem? (i := 145) (by decide +kernel))) (pc3 _ (List.mem_of_getElem? (i := 146) (by decide +kernel))) rfl ⟨by decide, by decide⟩
  · exact key yJ5_putStringAt_47b60 (by simp [pyl]) (pc3 _ (List.mem_of_getElem? (i := 178) (by decide +kernel))) (pc3 _ (List.mem_of_getElem? (i := 188) (by decide +kernel))) (pc3 _ (List.mem_of_getElem? (i := 189) (by decide +kernel))) rfl ⟨by decide, by decide⟩
  · exact key yJ5_inflateIfNeededFor_a7421 (by simp [pyl]) (pc3 _ (List.mem_of_getElem? (i := 178) (by decide +kernel))) (pc3 _ (List.mem_of_getElem? (i := 192) (by decide +kernel))) (pc3 _ (List.mem_of_getElem? (i := 193) (by decide +kernel))) rfl ⟨by decide, by decide⟩
def MSUk (own : String) (index : Nat) (y : MethodName) (bytes : ByteArray) (maxL : Nat) (ret : Option FieldType) (n : Nat) : Prop := ∀ (R : Room) (s : State) (args : Array Value) (rm : Room), (∀ w ∈ wall, w.before args s = true) → rm.frames + 1 ≤ R.frames ∧ 8 + (maxL + 11) + rm.locals ≤ R.locals → va_CS R s args own index y bytes maxL ret (wsg y bytes maxL ret) rm rm.cells rm.slots n
theorem MSUk.of {own : String} {index n maxL : Nat} {y : MethodName} {bytes : ByteArray} {ret : Option FieldType} (k1 : Cond.methodLink own index y ∈ wall) (k2 : Cond.sameMethod y.cls y.cls y.name y.desc ∈ wall) (k3 : Cond.superclass own y.cls ∈ wall) (k4 : Cond.instanceMethod y ∈ wall) (k5 : Cond.initialized y.cls ∈ wall) (k6 : Cond.code y bytes maxL ret ∈ wall) (hd : y.name ≠ "<init>" ∧ (parseMethodDescriptor y.desc).map (fun d => d.parameters.length) = some n) : MSUk own index y bytes maxL ret n := by
  intro R s args rm h6 hR
  refine va_cwSU n h6 (good_cons (fun w hw => ?_) (wall_to k6)) rfl rfl rfl hd hR
  simp only [List.mem_cons, List.not_mem_nil, or_false] at hw
  rcases hw with rfl | rfl | rfl | rfl | rfl
  · exact ⟨k1, wall_good k1⟩
  · exact ⟨k2, wall_good k2⟩
  · exact ⟨k3, wall_good k3⟩
  · exact ⟨k4, wall_good k4⟩
  · exact ⟨k5, wall_good k5⟩
section YU
variable {X : Cx} {S : Sx} {K : Kx} {A : Nat → Prop} {E E' : Ex} {kc kn : Nat} {bl sub rst : Bk} {cc : ByteArray} {own : String} {nL : Nat} {rm : Room} {pc : Nat} {lv lv' : List (Nat × Value)} {st rest As : List Value} {mc ms : Nat} {Qc : Nat → Array Value → State → Outcome → State → Prop}
theorem Y_runU {index maxL n a ci b i : Nat} {C owner : String} {x : MethodName} {T : u_T} {N : Nat} {fs : List Value} {ws : va_W} {y : MethodName} {bytes : ByteArray} {ret : Option FieldType} {rmc : Room} (hX : Yok X S K A cc own nL rm) (hE : YE X A E) {Z : State → Prop} (hk : MUk Z own index C owner x y bytes maxL ret n) (hZ : ∀ s, E A s → Z s) (hE' : Stb E') (hM : CY S K E' y bytes maxL ret rmc (.ref a :: As) sub Qc mc ms) (hbl : bl = sub ++ rst) (hEE : Ecall S K A E E' bl sub) (hb : bl[b]? = some ws) (he : ws[i]? = some (a, .inr (ci, fs))) (hc : vwCl[ci]? = some (C, T, N)) (hrc : rmc.cells = mc ∧ rmc.slots = ms) (hR : rmc.frames + 1 ≤ rm.frames ∧ 8 + (maxL + 11) + rmc.locals ≤ rm.locals) (hn : As.length = n) (hst : st = As.reverse ++ .ref a :: rest) (hW : (rest.map fun v => v.category).sum ≤ 8) (d : decode cc pc = .ok (.invokevirtual index, 3)) (hf : kc + mc ≤ rm.cells ∧ kn + ms ≤ rm.slots) : YRun X S A kc kn bl pc lv st rest mc ms sub Qc := by
  subst hst
  obtain ⟨rfl, rfl⟩ := hrc
  obtain ⟨p, l, e, R, s, m, args, below, meth, c, Q⟩ := X
  intro H locs ls hP hD hS hl
  have pre := fun U hU hW => ye_pre (vs := .ref a :: As) hX hE hEE hbl hP hD hS U hU hW
  obtain ⟨h1, h2, h3, rfl, h5, h6, h7, h8, h9⟩ := hX
  obtain ⟨q0, g1, -⟩ := fl_at hb he
  exact ⟨_, va_runU (As := As) (rest := rest) ⟨h1, h2, h3, h5, h6⟩ (hM l H.size hE.2.2) (hk R s args rmc h6 (hZ s hE.2.1) hR) ⟨PY.blind hE', va_recv h7 hP hc g1, pre⟩ rfl hn (hl.1.trans h3) rfl (lv_room hW) d hf⟩
theorem Y_runSU {index maxL n a ci b i : Nat} {C : String} {T : u_T} {N : Nat} {fs : List Value} {ws : va_W} {y : MethodName} {bytes : ByteArray} {ret : Option FieldType} {rmc : Room} (hX : Yok X S K A cc own nL rm) (hE : YE X A E) (hk : MSUk own index y bytes maxL ret n) (hE' : Stb E') (hM : CY S K E' y bytes maxL ret rmc (.ref a :: As) sub Qc mc ms) (hbl : bl = sub ++ rst) (hEE : Ecall S K A E E' bl sub) (hb : bl[b]? = some ws) (he : ws[i]? = some (a, .inr (ci, fs))) (hc : vwCl[ci]? = some (C, T, N)) (hrc : rmc.cells = mc ∧ rmc.slots = ms) (hR : rmc.frames + 1 ≤ rm.frames ∧ 8 + (maxL + 11) + rmc.locals ≤ rm.locals) (hn : As.length = n) (hst : st = As.reverse ++ .ref a :: rest) (hW : (rest.map fun v => v.category).sum ≤ 8) (d : decode cc pc = .ok (.invokespecial index, 3)) (hf : kc + mc ≤ rm.cells ∧ kn + ms ≤ rm.slots) : YRun X S A kc kn bl pc lv st rest mc ms sub Qc := by
  subst hst
  obtain ⟨rfl, rfl⟩ := hrc
  obtain ⟨p, l, e, R, s, m, args, below, meth, c, Q⟩ := X
  intro H locs ls hP hD hS hl
  have pre := fun U hU hW => ye_pre (vs := .ref a :: As) hX hE hEE hbl hP hD hS U hU hW
  obtain ⟨h1, h2, h3, rfl, h5, h6, h7, h8, h9⟩ := hX
  obtain ⟨q0, g1, -⟩ := fl_at hb he
  exact ⟨_, va_runSU (As := As) (rest := rest) (h7.1 ci _ hc).2 ⟨h1, h2, h3, h5, h6⟩ (hM l H.size hE.2.2) (hk R s args rmc h6 hR) ⟨PY.blind hE', va_recv h7 hP hc g1, pre⟩ rfl hn (hl.1.trans h3) rfl (lv_room hW) d hf⟩
end YU
theorem mu_J5_83 : MUk (fun _ => True) RJ5 83 RJ4 RJ5 yJ5_isLatin1_aae02 yJ5_isLatin1_aae02 cJ5_isLatin1_aae02 1 (some .boolean) 0 := MUk.pub (wl (pc3 _ (List.mem_of_getElem? (i := 175) (by decide +kernel))) rfl) (wl (pc3 _ (List.mem_of_getElem? (i := 177) (by decide +kernel))) rfl) (wl (pc3 _ (List.mem_of_getElem? (i := 178) (by decide +kernel))) rfl) (wl (pc3 _ (List.mem_of_getElem? (i := 176) (by decide +kernel))) rfl) (wl (pc1 _ (List.mem_of_getElem? (i := 19) (by decide +kernel))) rfl) (wl (pc3 _ (List.mem_of_getElem? (i := 179) (by decide +kernel))) rfl) ⟨by decide, by decide, by decide +kernel⟩
theorem mu_J0_1047 : MUk (fun _ => True) RJ0 1047 RJ4 RJ5 yJ5_isLatin1_aae02 yJ5_isLatin1_aae02 cJ5_isLatin1_aae02 1 (some .boolean) 0 := MUk.pub (wl (pc4 _ (List.mem_of_getElem? (i := 32) (by decide +kernel))) rfl) (wl (pc3 _ (List.mem_of_getElem? (i := 177) (by decide +kernel))) rfl) (wl (pc3 _ (List.mem_of_getElem? (i := 178) (by decide +kernel))) rfl) (wl (pc3 _ (List.mem_of_getElem? (i := 176) (by decide +kernel))) rfl) (wl (pc1 _ (List.mem_of_getElem? (i := 19) (by decide +kernel))) rfl) (wl (pc3 _ (List.mem_of_getElem? (i := 179) (by decide +kernel))) rfl) ⟨by decide, by decide, by decide +kernel⟩
theorem mu_J0_552 : MUk (fun _ => True) RJ0 552 RJ4 RJ5 yJ5_getValue_6d5f1 yJ5_getValue_6d5f1 cJ5_getValue_6d5f1 1 (some (.array .byte)) 0 := MUk.pub (wl (pc4 _ (List.mem_of_getElem? (i := 19) (by decide +kernel))) rfl) (wl (pc4 _ (List.mem_of_getElem? (i := 21) (by decide +kernel))) rfl) (wl (pc4 _ (List.mem_of_getElem? (i := 22) (by decide +kernel))) rfl) (wl (pc4 _ (List.mem_of_getElem? (i := 20) (by decide +kernel))) rfl) (wl (pc1 _ (List.mem_of_getElem? (i := 19) (by decide +kernel))) rfl) (wl (pc4 _ (List.mem_of_getElem? (i := 23) (by decide +kernel))) rfl) ⟨by decide, by decide, by decide +kernel⟩
theorem mu_J0_549 : MUk (fun _ => True) RJ0 549 RJ4 RJ5 yJ5_length_8abf5 yJ4_length_8abf5 cJ4_length_8abf5 1 (some .int) 0 := MUk.ovr (b0 := cJ5_length_8abf5) (m0 := 1) (r0 := some .int) (wl (pc4 _ (List.mem_of_getElem? (i := 24) (by decide +kernel))) rfl) (wl (pc4 _ (List.mem_of_getElem? (i := 26) (by decide +kernel))) rfl) (wl (pc4 _ (List.mem_of_getElem? (i := 25) (by decide +kernel))) rfl) (wl (pc4 _ (List.mem_of_getElem? (i := 27) (by decide +kernel))) rfl) (wl (pc4 _ (List.mem_of_getElem? (i := 28) (by decide +kernel))) rfl) (wl (pc1 _ (List.mem_of_getElem? (i := 20) (by decide +kernel))) rfl) (wl (pc4 _ (List.mem_of_getElem? (i := 29) (by decide +kernel))) rfl) (wl (pc4 _ (List.mem_of_getElem? (i := 31) (by decide +kernel))) rfl) ⟨by decide, by decide, by decide +kernel⟩
theorem mu_J5_100 : MUk PVs RJ5 100 RJ4 RJ5 yJ5_ensureCapacityInternal_d00df yJ5_ensureCapacityInternal_d00df cJ5_ensureCapacityInternal_d00df 3 none 1 := MUk.priv (wl (pc3 _ (List.mem_of_getElem? (i := 144) (by decide +kernel))) rfl) (wl (pc6 _ (List.mem_of_getElem? (i := 90) (by decide +kernel))) rfl) (by simp [pyl]) (wl (pc3 _ (List.mem_of_getElem? (i := 146) (by decide +kernel))) rfl) (wl (pc1 _ (List.mem_of_getElem? (i := 19) (by decide +kernel))) rfl) (wl (pc3 _ (List.mem_of_getElem? (i := 147) (by decide +kernel))) rfl) rfl ⟨by decide, by decide, by decide +kernel⟩
theorem mu_J5_208 : MUk PVs RJ5 208 RJ4 RJ5 yJ5_putStringAt_47b60 yJ5_putStringAt_47b60 cJ5_putStringAt_47b60 3 none 2 := MUk.priv (wl (pc3 _ (List.mem_of_getElem? (i := 187) (by decide +kernel))) rfl) (wl (pc6 _ (List.mem_of_getElem? (i := 92) (by decide +kernel))) rfl) (by simp [pyl]) (wl (pc3 _ (List.mem_of_getElem? (i := 189) (by decide +kernel))) rfl) (wl (pc1 _ (List.mem_of_getElem? (i := 19) (by decide +kernel))) rfl) (wl (pc3 _ (List.mem_of_getElem? (i := 190) (by decide +kernel))) rfl) rfl ⟨by decide, by decide, by decide +kernel⟩
theorem mu_J5_397 : MUk PVs RJ5 397 RJ4 RJ5 yJ5_inflateIfNeededFor_a7421 yJ5_inflateIfNeededFor_a7421 cJ5_inflateIfNeededFor_a7421 2 none 1 := MUk.priv (wl (pc3 _ (List.mem_of_getElem? (i := 191) (by decide +kernel))) rfl) (wl (pc6 _ (List.mem_of_getElem? (i := 93) (by decide +kernel))) rfl) (by simp [pyl]) (wl (pc3 _ (List.mem_of_getElem? (i := 193) (by decide +kernel))) rfl) (wl (pc1 _ (List.mem_of_getElem? (i := 19) (by decide +kernel))) rfl) (wl (pc3 _ (List.mem_of_getElem? (i := 194) (by decide +kernel))) rfl) rfl ⟨by decide, by decide, by decide +kernel⟩
theorem su_J4_29 : MSUk RJ4 29 yJ5_append_cf1ce cJ5_append_cf1ce 3 (some (.object "java/lang/AbstractStringBuilder")) 1 := MSUk.of (wl (pc3 _ (List.mem_of_getElem? (i := 137) (by decide +kernel))) rfl) (wl (pc6 _ (List.mem_of_getElem? (i := 88) (by decide +kernel))) rfl) (wl (pc3 _ (List.mem_of_getElem? (i := 130) (by decide +kernel))) rfl) (wl (pc3 _ (List.mem_of_getElem? (i := 138) (by decide +kernel))) rfl) (wl (pc1 _ (List.mem_of_getElem? (i := 19) (by decide +kernel))) rfl) (wl (pc3 _ (List.mem_of_getElem? (i := 139) (by decide +kernel))) rfl) ⟨by decide, by decide +kernel⟩
theorem su_J4_53 : MSUk RJ4 53 yJ5_append_c97b9 cJ5_append_c97b9 4 (some (.object "java/lang/AbstractStringBuilder")) 1 := MSUk.of (wl (pc3 _ (List.mem_of_getElem? (i := 225) (by decide +kernel))) rfl) (wl (pc6 _ (List.mem_of_getElem? (i := 95) (by decide +kernel))) rfl) (wl (pc3 _ (List.mem_of_getElem? (i := 130) (by decide +kernel))) rfl) (wl (pc3 _ (List.mem_of_getElem? (i := 226) (by decide +kernel))) rfl) (wl (pc1 _ (List.mem_of_getElem? (i := 19) (by decide +kernel))) rfl) (wl (pc3 _ (List.mem_of_getElem? (i := 227) (by decide +kernel))) rfl) ⟨by decide, by decide +kernel⟩
theorem su_J4_343 : MSUk RJ4 343 yJ5_length_8abf5 cJ5_length_8abf5 1 (some .int) 0 := MSUk.of (wl (pc4 _ (List.mem_of_getElem? (i := 30) (by decide +kernel))) rfl) (wl (pc4 _ (List.mem_of_getElem? (i := 26) (by decide +kernel))) rfl) (wl (pc3 _ (List.mem_of_getElem? (i := 130) (by decide +kernel))) rfl) (wl (pc4 _ (List.mem_of_getElem? (i := 25) (by decide +kernel))) rfl) (wl (pc1 _ (List.mem_of_getElem? (i := 19) (by decide +kernel))) rfl) (wl (pc4 _ (List.mem_of_getElem? (i := 31) (by decide +kernel))) rfl) ⟨by decide, by decide +kernel⟩
