-- ===== the law's judgement: worlds of blocks that grow =====
/-- the texts' links -/
def SwR (S : Sx) (U : State) : Prop := vk_R RX2 75 "stnwfrm" (adK S 0) U ∧ vk_R RX12 161 "" (adK S 1) U ∧ vk_R RX12 240 ";" (adK S 2) U ∧ vk_R RX12 242 "t" (adK S 3) U ∧ vk_R RX12 244 "l" (adK S 4) U ∧ vk_R RX12 246 "c" (adK S 5) U ∧ vk_R RX12 248 "m" (adK S 6) U ∧ vk_R RX12 270 "s*8-t*2" (adK S 7) U ∧ vk_R RX12 272 "s*n*6-w*3-t" (adK S 8) U ∧ vk_R RX12 274 "r/5+s-f-t" (adK S 9) U ∧ vk_R RX12 276 "s*9-m-t" (adK S 10) U ∧ vk_R RX12 278 "(t<20)*s-f" (adK S 11) U ∧ vk_R RX12 280 "s*s-t-w" (adK S 12) U ∧ vk_R RX12 282 "40-t-w*2+n" (adK S 13) U
theorem SwR.warm {S : Sx} {s U : State} (h : SwR S s) (hW : s.WarmedH U.vm) : SwR S U := by
  obtain ⟨r0, r1, r2, r3, r4, r5, r6, r7, r8, r9, r10, r11, r12, r13⟩ := h
  exact ⟨r0.warm hW, r1.warm hW, r2.warm hW, r3.warm hW, r4.warm hW, r5.warm hW, r6.warm hW, r7.warm hW, r8.warm hW, r9.warm hW, r10.warm hW, r11.warm hW, r12.warm hW, r13.warm hW⟩
theorem SwR.calling {S : Sx} {U : State} (h : SwR S U) (g : JFrame) (mk : MethodId) (a : Array Value) : SwR S (U.calling g mk a) := by
  obtain ⟨r0, r1, r2, r3, r4, r5, r6, r7, r8, r9, r10, r11, r12, r13⟩ := h
  have hv : (U.calling g mk a).vm = U.vm := rfl
  exact ⟨r0.same hv, r1.same hv, r2.same hv, r3.same hv, r4.same hv, r5.same hv, r6.same hv, r7.same hv, r8.same hv, r9.same hv, r10.same hv, r11.same hv, r12.same hv, r13.same hv⟩
abbrev Kx : Type := (Nat → ClassId) × (Nat → Nat)
abbrev Bk : Type := List va_W
abbrev tyY (S : Sx) (K : Kx) : List (ClassId × FieldType) := [(cAr S 0, .int), (cAr S 1, .long), (cAr S 2, .boolean), (cAr S 3, .object RX1), (K.1 0, .byte), (K.1 1, .array .int), (K.1 2, .object "java/lang/Object")]
def ruK (j : Nat) : Nat := [1, 7, 8, 9, 10, 11, 12, 13].getD j 0
/-- a text that lies outside of the region: its address, its bytes' address, its bytes -/
abbrev Sk : Type := Nat × Nat × List Int32
def StrAt (x : Sk) (A : Nat → Prop) (U : State) (H : Heap) : Prop := va_O "java/lang/String" x.1 A U H ∧ va_OF "java/lang/String" "coder" "B" (.int 0) x.1 A U H ∧ va_OF "java/lang/String" "value" "[B" (.ref x.2.1) x.1 A U H ∧ va_T .byte x.2.1 x.2.2.length (fun j => .int (x.2.2.getD j 0)) A U H
/-- the constants: texts, statics, the tables of digits -/
def KF (S : Sx) (K : Kx) (A : Nat → Prop) (U : State) (H : Heap) : Prop := vk_S 14 lenS bytS (adK S) (adV S) A U H ∧ SwR S U ∧ va_Z "java/lang/String" "COMPACT_STRINGS" "Z" (.int 1) A U H ∧ va_Z "jdk/internal/util/Preconditions" "SIOOBE_FORMATTER" "Ljava/util/function/BiFunction;" (fmV S) A U H ∧
  va_Z "MustNotStopLaw$Bench" "RULES" "[Ljava/lang/String;" (.ref (K.2 0)) A U H ∧ va_T (.object "java/lang/String") (K.2 0) 8 (fun j => .ref (adK S (ruK j))) A U H ∧
  va_Z "java/lang/Integer" "DigitOnes" "[B" (.ref (K.2 1)) A U H ∧ va_T .byte (K.2 1) 100 (fun j => .int (nI (48 + j % 10))) A U H ∧
  va_Z "java/lang/Integer" "DigitTens" "[B" (.ref (K.2 2)) A U H ∧ va_T .byte (K.2 2) 100 (fun j => .int (nI (48 + j / 10))) A U H ∧
  va_Z "java/util/ArrayList" "DEFAULTCAPACITY_EMPTY_ELEMENTDATA" "[Ljava/lang/Object;" (.ref (K.2 3)) A U H ∧ va_T (.object "java/lang/Object") (K.2 3) 0 (fun _ => .null) A U H ∧
  NX U ∧ vx_Zq Bundle.tN "UNASSIGNED_STACK" Bundle.steD A U H ∧ vx_Zq Bundle.tN "SUPPRESSED_SENTINEL" Bundle.listD A U H
theorem StrAt.mv {x : Sk} {A B : Nat → Prop} {s U : State} {H H1 : Heap} (h : StrAt x A s H) (hvm : s.vm.Alike U.vm) (hq : ∀ q : Nat, q < H.size → ¬ A q → H1[q]? = H[q]?) (hAB : ∀ q, B q → A q) : StrAt x B U H1 :=
  ⟨((va_O.moved hvm h.1).kept hq).narrow hAB, ((va_OF.moved hvm h.2.1).kept hq).narrow hAB, ((va_OF.moved hvm h.2.2.1).kept hq).narrow hAB, ((va_T.moved hvm h.2.2.2).kept hq).narrow hAB⟩
theorem KF.mv {S : Sx} {K : Kx} {A B : Nat → Prop} {s U : State} {H H1 : Heap} (h : KF S K A s H) (hW : s.vm.Alike U.vm) (hr : SwR S U) (hx : NX U) (hq : ∀ q : Nat, q < H.size → ¬ A q → H1[q]? = H[q]?) (hAB : ∀ q, B q → A q) : KF S K B U H1 := by
  obtain ⟨h1, h2, h3, h4, h5, h6, h7, h8, h9, h10, h11, h12, h13, h14, h15⟩ := h
  exact ⟨((vk_S.moved hW h1).kept hq).narrow hAB, hr, ((va_Z.moved hW h3).kept hq).narrow hAB, ((va_Z.moved hW h4).kept hq).narrow hAB, ((va_Z.moved hW h5).kept hq).narrow hAB, ((va_T.moved hW h6).kept hq).narrow hAB, ((va_Z.moved hW h7).kept hq).narrow hAB, ((va_T.moved hW h8).kept hq).narrow hAB, ((va_Z.moved hW h9).kept hq).narrow hAB, ((va_T.moved hW h10).kept hq).narrow hAB, ((va_Z.moved hW h11).kept hq).narrow hAB, ((va_T.moved hW h12).kept hq).narrow hAB, hx, ((vx_Zq.moved hW h14).kept hq).narrow hAB, ((vx_Zq.moved hW h15).kept hq).narrow hAB⟩
theorem KF.nx {S : Sx} {K : Kx} {A : Nat → Prop} {U : State} {H : Heap} (h : KF S K A U H) : NX U := h.2.2.2.2.2.2.2.2.2.2.2.2.1
/-- what is told of all that a method finds outside of its region -/
abbrev Ex : Type := (Nat → Prop) → State → Prop
def Stb (E : Ex) : Prop := (∀ (A B : Nat → Prop) (s U : State), E A s → s.WarmedH U.vm → (∀ q : Nat, q < s.heap.size → ¬ A q → U.heap[q]? = s.heap[q]?) → (∀ q, B q → A q) → E B U) ∧ ∀ (A : Nat → Prop) (U : State) (g : JFrame) (mk : MethodId) (a : Array Value), E A U → E A (U.calling g mk a)
def E0 (S : Sx) (K : Kx) : Ex := fun A U => KF S K A U U.heap
def ES (S : Sx) (K : Kx) (x : Sk) : Ex := fun A U => KF S K A U U.heap ∧ StrAt x A U U.heap
def EX (S : Sx) (K : Kx) (b n : Nat) (xs : Nat → Int32) : Ex := fun A U => KF S K A U U.heap ∧ va_X b n xs U U.heap ∧ b < U.heap.size ∧ ¬ A b
theorem vaX_mv {b n : Nat} {xs : Nat → Int32} {s U : State} {H H1 : Heap} (h : va_X b n xs s H) (hvm : s.vm.Alike U.vm) (e : H1[b]? = H[b]?) : va_X b n xs U H1 := by
  obtain ⟨c, c1, c2, c3⟩ := h
  exact ⟨c, by rw [e]; exact c1, State.isArrayOf_alike hvm c2, c3⟩
theorem E0.stb (S : Sx) (K : Kx) : Stb (E0 S K) := ⟨fun A B s U h hW hq hAB => KF.mv h hW.alike (h.2.1.warm hW) (h.nx.warm hW) hq hAB, fun A U g mk a h => KF.mv (U := U.calling g mk a) h (Vm.Alike.refl U.vm) (h.2.1.calling g mk a) (h.nx.same rfl) (fun _ _ _ => rfl) (fun _ z => z)⟩
theorem ES.stb (S : Sx) (K : Kx) (x : Sk) : Stb (ES S K x) := ⟨fun A B s U h hW hq hAB => ⟨KF.mv h.1 hW.alike (h.1.2.1.warm hW) (h.1.nx.warm hW) hq hAB, h.2.mv hW.alike hq hAB⟩, fun A U g mk a h => ⟨KF.mv (U := U.calling g mk a) h.1 (Vm.Alike.refl U.vm) (h.1.2.1.calling g mk a) (h.1.nx.same rfl) (fun _ _ _ => rfl) (fun _ z => z), StrAt.mv (U := U.calling g mk a) h.2 (Vm.Alike.refl U.vm) (fun _ _ _ => rfl) (fun _ z => z)⟩⟩
theorem EX.stb (S : Sx) (K : Kx) (b n : Nat) (xs : Nat → Int32) : Stb (EX S K b n xs) := ⟨fun A B s U h hW hq hAB => ⟨KF.mv h.1 hW.alike (h.1.2.1.warm hW) (h.1.nx.warm hW) hq hAB, vaX_mv h.2.1 hW.alike (hq b h.2.2.1 h.2.2.2), by
    have e := hq b h.2.2.1 h.2.2.2
    obtain ⟨c, c1, -⟩ := h.2.1
    rw [c1] at e
    exact (Array.getElem?_eq_some_iff.mp e).1, fun z => h.2.2.2 (hAB b z)⟩, fun A U g mk a h => ⟨KF.mv (U := U.calling g mk a) h.1 (Vm.Alike.refl U.vm) (h.1.2.1.calling g mk a) (h.1.nx.same rfl) (fun _ _ _ => rfl) (fun _ z => z), vaX_mv (U := U.calling g mk a) h.2.1 (Vm.Alike.refl U.vm) rfl, h.2.2⟩⟩
/-- links that are handed on -/
def nyl : List (String × Nat × MethodName) := [(RX12, 157, yX11_init), (RL, 9, yX12_init)]
def cyl : List (String × String) := [("[B", "java/lang/Cloneable"), ("[Z", "java/lang/Cloneable"), ("[I", "java/lang/Cloneable"), (RX11, "java/lang/Object")]
def NY (U : State) : Prop := NZ U ∧ va_AO "java/lang/Object" U ∧ (Cond.arrayOver (.array .int)).before #[] U = true ∧ (∀ q, q ∈ nyl → va_Nw (.methodLinkNest q.1 q.2.1 q.2.2 "MustNotStopLaw") U) ∧ ∀ q, q ∈ cyl → va_Nw (.castable q.1 q.2) U
theorem aoI_moved {u U : State} (hvm : u.vm.Alike U.vm) (h : (Cond.arrayOver (.array .int)).before #[] u = true) : (Cond.arrayOver (.array .int)).before #[] U = true := by
  obtain ⟨comp, c, k, h1, h2, h3, h4, h5⟩ := arrayOverA_spec h
  obtain ⟨k', hk', he⟩ := hvm.2.2 _ _ h3
  have hi : (U.vm.classes.findIdx? fun (x : Class) => match x.kind with | .array component _ => component == comp | _ => false) = some c := by
    rw [hvm.findIdx?_eq _ (fun _ => rfl)]
    exact h2
  have hkind : k'.kind = .array comp (.array .int) := by rw [he]; exact h4
  have f1 : U.vm.findClass (FieldType.array .int).toString = some comp := by rw [hvm.findClass]; exact h1
  have f2 : U.vm.findClass ("[" ++ (FieldType.array .int).toString) = some c := by rw [hvm.findClass]; exact h5
  unfold Cond.before Cond.holds
  simp only [Cond.value]
  rw [f1, Option.bind_some]
  refine (congrArg (fun o : Option Nat => (o.bind (fun c => (U.vm.classes[c]?).map fun (k : Class) => match k.kind with | .array _ ty => decide (ty = FieldType.array .int) && decide (U.vm.findClass ("[" ++ (FieldType.array .int).toString) = some c) | _ => false) == some true)) hi).trans ?_
  simp [hk', hkind, f2]
theorem NY.mv {s U : State} (h : NY s) (hW : s.WarmedH U.vm) : NY U := ⟨h.1.warm hW, va_AO.moved hW.alike h.2.1, aoI_moved hW.alike h.2.2.1, fun q hq => va_Nw.warmM hW (h.2.2.2.1 q hq), fun q hq => va_Nw.warmC hW (h.2.2.2.2 q hq)⟩
theorem NY.same {s U : State} (h : NY s) (e : U.vm = s.vm) : NY U := ⟨h.1.same e, va_AO.moved (by rw [e]; exact Vm.Alike.refl _) h.2.1, aoI_moved (by rw [e]; exact Vm.Alike.refl _) h.2.2.1, fun q hq => va_Nw.same rfl e.symm (h.2.2.2.1 q hq), fun q hq => va_Nw.same rfl e.symm (h.2.2.2.2 q hq)⟩
-- blocks
theorem fl_at {bl : Bk} {b i : Nat} {ws : va_W} {x : Nat × va_E} (hb : bl[b]? = some ws) (hi : ws[i]? = some x) : ∃ q0, bl.flatten[q0]? = some x ∧ ∀ c', bl.flatten.set q0 c' = (bl.set b (ws.set i c')).flatten := by
  induction bl generalizing b with
  | nil => cases hb
  | cons y ys ih =>
    cases b with
    | zero =>
      have e : y = ws := Option.some.inj hb
      subst e
      have hl : i < y.length := (List.getElem?_eq_some_iff.mp hi).1
      refine ⟨i, ?_, fun c' => ?_⟩
      · rw [List.flatten_cons, List.getElem?_append_left hl]; exact hi
      · rw [List.flatten_cons, List.set_append_left _ _ hl]; rfl
    | succ b =>
      obtain ⟨q0, h1, h2⟩ := ih (b := b) hb
      refine ⟨y.length + q0, ?_, fun c' => ?_⟩
      · rw [List.flatten_cons, List.getElem?_append_right (Nat.le_add_right _ _), Nat.add_sub_cancel_left]; exact h1
      · rw [List.flatten_cons, List.set_append_right _ _ (Nat.le_add_right _ _), Nat.add_sub_cancel_left, h2 c']; rfl
theorem fl_push (bl : Bk) (c : Nat × va_E) : (bl ++ [[c]]).flatten = bl.flatten ++ [c] := by
  rw [List.flatten_append, List.flatten_singleton]
def nea (a b : Nat × va_E) : Prop := a.1 ≠ b.1
theorem fl_pick {A : Nat → Prop} {bl : Bk} (h : va_D A bl.flatten) (is : List Nat) (hn : is.Nodup) : va_D A (is.filterMap (fun i => bl[i]?)).flatten ∧ ∀ x, x ∈ (is.filterMap (fun i => bl[i]?)).flatten → x ∈ bl.flatten := by
  obtain ⟨d1, d2⟩ := vaD_iff.mp h
  obtain ⟨e1, e2⟩ := List.pairwise_flatten.mp d1
  have hm : ∀ x, x ∈ (is.filterMap (fun i => bl[i]?)).flatten → x ∈ bl.flatten := fun x hx => by
    obtain ⟨l, hl, hx⟩ := List.mem_flatten.mp hx
    obtain ⟨i, -, hi⟩ := List.mem_filterMap.mp hl
    exact List.mem_flatten.mpr ⟨l, List.mem_of_getElem? hi, hx⟩
  refine ⟨vaD_iff.mpr ⟨List.pairwise_flatten.mpr ⟨fun l hl => ?_, ?_⟩, fun q hq => d2 q (hm q hq)⟩, hm⟩
  · obtain ⟨i, -, hi⟩ := List.mem_filterMap.mp hl
    exact e1 l (List.mem_of_getElem? hi)
  · rw [List.pairwise_filterMap]
    refine List.Pairwise.imp (fun {a b} hab l1 h1 l2 h2 x hx y hy => ?_) hn
    have g := List.pairwise_iff_getElem.mp e2
    obtain ⟨p1, q1⟩ := List.getElem?_eq_some_iff.mp h1
    obtain ⟨p2, q2⟩ := List.getElem?_eq_some_iff.mp h2
    rcases Nat.lt_trichotomy a b with c | c | c
    · exact g a b p1 p2 c x (by rw [q1]; exact hx) y (by rw [q2]; exact hy)
    · exact absurd c hab
    · exact fun e => g b a p2 p1 c y (by rw [q2]; exact hy) x (by rw [q1]; exact hx) e.symm
/-- behind a call: its blocks have become what it made, all else stays -/
theorem va_mid2 {A0 : Nat → Prop} {D : va_G} {cl : List vw_C} {ws1 ws2 w1 : va_W} {H H1 : Heap} (hP : va_P D cl (ws1 ++ ws2) H) (hD : va_D A0 (ws1 ++ ws2)) (hk : ∀ x : Nat, x < H.size → ¬ va_A ws1 H.size x → H1[x]? = H[x]?) (hF : ∀ x, va_A ws1 H.size x → A0 x) (hP1 : va_P D cl w1 H1) (hD1 : va_D (va_A ws1 H.size) w1) : va_P D cl (w1 ++ ws2) H1 ∧ va_D A0 (w1 ++ ws2) := by
  obtain ⟨d1, d2⟩ := vaD_iff.mp hD
  obtain ⟨e1, e2⟩ := vaD_iff.mp hD1
  obtain ⟨f1, f2, f3⟩ := List.pairwise_append.mp d1
  have lt : ∀ x, x ∈ ws2 → x.1 < H.size := fun x hx => (vaP_iff.mp hP x (List.mem_append_right _ hx)).lt
  have nA : ∀ x, x ∈ ws2 → ¬ va_A ws1 H.size x.1 := fun x hx z => by
    rcases z with ⟨k, e, z⟩ | z
    · exact f3 _ (List.mem_of_getElem? z) x hx rfl
    · have := lt x hx
      omega
  refine ⟨vaP_iff.mpr (fun x hx => ?_), vaD_iff.mpr ⟨List.pairwise_append.mpr ⟨e1, f2, fun a ha b hb e => nA b hb (by rw [← e]; exact e2 a ha)⟩, fun x hx => ?_⟩⟩
  · rcases List.mem_append.mp hx with h | h
    · exact vaP_iff.mp hP1 x h
    · exact (vaP_iff.mp hP x (List.mem_append_right _ h)).kept (hk x.1 (lt x h) (nA x h))
  · rcases List.mem_append.mp hx with h | h
    · exact hF _ (e2 x h)
    · exact d2 x (List.mem_append_right _ h)
theorem vaA_in {A0 : Nat → Prop} {ws1 ws2 : va_W} {H0 H : Heap} {locs : List Loc} (hD : va_D A0 (ws1 ++ ws2)) (hS : va_S A0 H0 H locs) (hA : ∀ q : Nat, H0.size ≤ q → A0 q) : ∀ x, va_A ws1 H.size x → A0 x := fun x hx => by
  rcases hx with ⟨j, e, hx⟩ | hx
  · exact (vaD_iff.mp hD).2 (x, e) (List.mem_append_left _ (List.mem_of_getElem? hx))
  · exact hA x (Nat.le_trans hS.1 hx)
theorem vaD_self {A : Nat → Prop} {ws1 ws2 : va_W} {sz : Nat} (hD : va_D A (ws1 ++ ws2)) : va_D (va_A ws1 sz) ws1 := by
  obtain ⟨d1, -⟩ := vaD_iff.mp hD
  refine vaD_iff.mpr ⟨(List.pairwise_append.mp d1).1, fun q hq => ?_⟩
  obtain ⟨k, hk⟩ := List.getElem?_of_mem hq
  exact .inl ⟨k, q.2, hk⟩
-- the judgement
def Yok (X : Cx) (S : Sx) (K : Kx) (A : Nat → Prop) (cc : ByteArray) (own : String) (nL : Nat) (rm : Room) : Prop := match X with
  | (p, _, _, R, s, m, args, _, _, c, _) => p.tables.exec = Jvm.exec ∧ c.code = cc ∧ c.maxLocals = nL ∧ R = rm ∧ s.vm.findClass own = some m.cls ∧ (∀ w ∈ wall, w.before args s = true) ∧ va_K S.1 vwCl (tyY S K) s ∧ (∀ q : Nat, s.heap.size ≤ q → A q) ∧ NY s
/-- what it was told of the rest -/
def YE (X : Cx) (A : Nat → Prop) (E : Ex) : Prop := match X with
  | (_, l, _, _, s, _, _, _, _, _, _) => Stb E ∧ E A s ∧ l.stackTraces = false
def Y (X : Cx) (S : Sx) (K : Kx) (A : Nat → Prop) (kc kn : Nat) (bl : Bk) (pc : Nat) (lv : List (Nat × Value)) (st : List Value) : Prop := match X with
  | (p, l, e, R, s, m, args, below, meth, c, Q) => ∀ (H : Heap) (locs : List Loc) (ls : Array Slot), va_P S.1 vwCl bl.flatten H → va_D A bl.flatten → va_S A s.heap H locs → lv_has ls c.maxLocals lv → W p l e R s m args below meth c H locs kc kn Q (F0 m pc ls st)
section YR
variable {X : Cx} {S : Sx} {K : Kx} {A : Nat → Prop} {E : Ex} {kc kn : Nat} {bl bl' : Bk} {cc : ByteArray} {own : String} {nL : Nat} {rm : Room} {pc : Nat} {lv lv' : List (Nat × Value)} {st : List Value}
theorem Y_iadd {x y : Int32} (hX : Yok X S K A cc own nL rm) (d : decode cc pc = .ok (.iadd, 1)) (kk : Y X S K A kc kn bl (pc + 1) lv (.int (x + y) :: st)) : Y X S K A kc kn bl pc lv (.int y :: .int x :: st) := by
  obtain ⟨p, l, e, R, s, m, args, below, meth, c, Q⟩ := X
  exact fun H locs ls hP hD hS hv => lv_iadd hX.1 hX.2.1 d (kk H locs ls hP hD hS hv)
theorem Y_isub {x y : Int32} (hX : Yok X S K A cc own nL rm) (d : decode cc pc = .ok (.isub, 1)) (kk : Y X S K A kc kn bl (pc + 1) lv (.int (x - y) :: st)) : Y X S K A kc kn bl pc lv (.int y :: .int x :: st) := by
  obtain ⟨p, l, e, R, s, m, args, below, meth, c, Q⟩ := X
  exact fun H locs ls hP hD hS hv => lv_isub hX.1 hX.2.1 d (kk H locs ls hP hD hS hv)
theorem Y_imul {x y : Int32} (hX : Yok X S K A cc own nL rm) (d : decode cc pc = .ok (.imul, 1)) (kk : Y X S K A kc kn bl (pc + 1) lv (.int (x * y) :: st)) : Y X S K A kc kn bl pc lv (.int y :: .int x :: st) := by
  obtain ⟨p, l, e, R, s, m, args, below, meth, c, Q⟩ := X
  exact fun H locs ls hP hD hS hv => lv_imul hX.1 hX.2.1 d (kk H locs ls hP hD hS hv)
theorem Y_iand {x y : Int32} (hX : Yok X S K A cc own nL rm) (d : decode cc pc = .ok (.iand, 1)) (kk : Y X S K A kc kn bl (pc + 1) lv (.int (x &&& y) :: st)) : Y X S K A kc kn bl pc lv (.int y :: .int x :: st) := by
  obtain ⟨p, l, e, R, s, m, args, below, meth, c, Q⟩ := X
  exact fun H locs ls hP hD hS hv => lv_iand hX.1 hX.2.1 d (kk H locs ls hP hD hS hv)
theorem Y_ior {x y : Int32} (hX : Yok X S K A cc own nL rm) (d : decode cc pc = .ok (.ior, 1)) (kk : Y X S K A kc kn bl (pc + 1) lv (.int (x ||| y) :: st)) : Y X S K A kc kn bl pc lv (.int y :: .int x :: st) := by
  obtain ⟨p, l, e, R, s, m, args, below, meth, c, Q⟩ := X
  exact fun H locs ls hP hD hS hv => lv_ior hX.1 hX.2.1 d (kk H locs ls hP hD hS hv)
theorem Y_ixor {x y : Int32} (hX : Yok X S K A cc own nL rm) (d : decode cc pc = .ok (.ixor, 1)) (kk : Y X S K A kc kn bl (pc + 1) lv (.int (x ^^^ y) :: st)) : Y X S K A kc kn bl pc lv (.int y :: .int x :: st) := by
  obtain ⟨p, l, e, R, s, m, args, below, meth, c, Q⟩ := X
  exact fun H locs ls hP hD hS hv => lv_ixor hX.1 hX.2.1 d (kk H locs ls hP hD hS hv)
theorem Y_ishl {x y : Int32} (hX : Yok X S K A cc own nL rm) (d : decode cc pc = .ok (.ishl, 1)) (kk : Y X S K A kc kn bl (pc + 1) lv (.int (ishlI x y) :: st)) : Y X S K A kc kn bl pc lv (.int y :: .int x :: st) := by
  obtain ⟨p, l, e, R, s, m, args, below, meth, c, Q⟩ := X
  exact fun H locs ls hP hD hS hv => lv_ishl hX.1 hX.2.1 d (kk H locs ls hP hD hS hv)
theorem Y_ishr {x y : Int32} (hX : Yok X S K A cc own nL rm) (d : decode cc pc = .ok (.ishr, 1)) (kk : Y X S K A kc kn bl (pc + 1) lv (.int (ishrI x y) :: st)) : Y X S K A kc kn bl pc lv (.int y :: .int x :: st) := by
  obtain ⟨p, l, e, R, s, m, args, below, meth, c, Q⟩ := X
  exact fun H locs ls hP hD hS hv => lv_ishr hX.1 hX.2.1 d (kk H locs ls hP hD hS hv)
theorem Y_iushr {x y : Int32} (hX : Yok X S K A cc own nL rm) (d : decode cc pc = .ok (.iushr, 1)) (kk : Y X S K A kc kn bl (pc + 1) lv (.int (iushrI x y) :: st)) : Y X S K A kc kn bl pc lv (.int y :: .int x :: st) := by
  obtain ⟨p, l, e, R, s, m, args, below, meth, c, Q⟩ := X
  exact fun H locs ls hP hD hS hv => lv_iushr hX.1 hX.2.1 d rfl (kk H locs ls hP hD hS hv)
theorem Y_idiv {x y : Int32} (hX : Yok X S K A cc own nL rm) (d : decode cc pc = .ok (.idiv, 1)) (hz : neZ y = true) (kk : Y X S K A kc kn bl (pc + 1) lv (.int (x / y) :: st)) : Y X S K A kc kn bl pc lv (.int y :: .int x :: st) := by
  obtain ⟨p, l, e, R, s, m, args, below, meth, c, Q⟩ := X
  exact fun H locs ls hP hD hS hv => lv_idiv hX.1 hX.2.1 d (neZ_ne hz) (kk H locs ls hP hD hS hv)
theorem Y_irem {x y : Int32} (hX : Yok X S K A cc own nL rm) (d : decode cc pc = .ok (.irem, 1)) (hz : neZ y = true) (kk : Y X S K A kc kn bl (pc + 1) lv (.int (iremI x y) :: st)) : Y X S K A kc kn bl pc lv (.int y :: .int x :: st) := by
  obtain ⟨p, l, e, R, s, m, args, below, meth, c, Q⟩ := X
  exact fun H locs ls hP hD hS hv => lv_irem hX.1 hX.2.1 d (neZ_ne hz) (kk H locs ls hP hD hS hv)
theorem Y_lcmp {x y : Int64} (hX : Yok X S K A cc own nL rm) (d : decode cc pc = .ok (.lcmp, 1)) (kk : Y X S K A kc kn bl (pc + 1) lv (.int (lg_cmp x y) :: st)) : Y X S K A kc kn bl pc lv (.long y :: .long x :: st) := by
  obtain ⟨p, l, e, R, s, m, args, below, meth, c, Q⟩ := X
  exact fun H locs ls hP hD hS hv => W.lcmp hX.1 hX.2.1 d (kk H locs ls hP hD hS hv)
theorem Y_ineg {x : Int32} (hX : Yok X S K A cc own nL rm) (d : decode cc pc = .ok (.ineg, 1)) (kk : Y X S K A kc kn bl (pc + 1) lv (.int (-x) :: st)) : Y X S K A kc kn bl pc lv (.int x :: st) := by
  obtain ⟨p, l, e, R, s, m, args, below, meth, c, Q⟩ := X
  exact fun H locs ls hP hD hS hv => lv_ineg hX.1 hX.2.1 d (kk H locs ls hP hD hS hv)
theorem Y_i2l {x : Int32} (hX : Yok X S K A cc own nL rm) (d : decode cc pc = .ok (.i2l, 1)) (kk : Y X S K A kc kn bl (pc + 1) lv (.long x.toInt64 :: st)) : Y X S K A kc kn bl pc lv (.int x :: st) := by
  obtain ⟨p, l, e, R, s, m, args, below, meth, c, Q⟩ := X
  exact fun H locs ls hP hD hS hv => lv_i2l hX.1 hX.2.1 d rfl (kk H locs ls hP hD hS hv)
theorem Y_i2b {x : Int32} (hX : Yok X S K A cc own nL rm) (d : decode cc pc = .ok (.i2b, 1)) (kk : Y X S K A kc kn bl (pc + 1) lv (.int (i2bI x) :: st)) : Y X S K A kc kn bl pc lv (.int x :: st) := by
  obtain ⟨p, l, e, R, s, m, args, below, meth, c, Q⟩ := X
  exact fun H locs ls hP hD hS hv => lv_i2b hX.1 hX.2.1 d rfl (kk H locs ls hP hD hS hv)
theorem Y_i2c {x : Int32} (hX : Yok X S K A cc own nL rm) (d : decode cc pc = .ok (.i2c, 1)) (kk : Y X S K A kc kn bl (pc + 1) lv (.int (i2cI x) :: st)) : Y X S K A kc kn bl pc lv (.int x :: st) := by
  obtain ⟨p, l, e, R, s, m, args, below, meth, c, Q⟩ := X
  exact fun H locs ls hP hD hS hv => lv_i2c hX.1 hX.2.1 d rfl (kk H locs ls hP hD hS hv)
theorem Y_iconst {n : Int} {v : Int32} (hX : Yok X S K A cc own nL rm) (d : decode cc pc = .ok (.iconst n, 1)) (hv0 : Int32.ofInt n = v) (kk : Y X S K A kc kn bl (pc + 1) lv (.int v :: st)) : Y X S K A kc kn bl pc lv (st) := by
  obtain ⟨p, l, e, R, s, m, args, below, meth, c, Q⟩ := X
  exact fun H locs ls hP hD hS hv => lv_iconst hX.1 hX.2.1 d hv0 (kk H locs ls hP hD hS hv)
theorem Y_bipush {n : Int} {v : Int32} (hX : Yok X S K A cc own nL rm) (d : decode cc pc = .ok (.bipush n, 2)) (hv0 : (Int8.ofInt n).toInt32 = v) (kk : Y X S K A kc kn bl (pc + 2) lv (.int v :: st)) : Y X S K A kc kn bl pc lv (st) := by
  obtain ⟨p, l, e, R, s, m, args, below, meth, c, Q⟩ := X
  exact fun H locs ls hP hD hS hv => lv_bipush hX.1 hX.2.1 d hv0 (kk H locs ls hP hD hS hv)
theorem Y_sipush {n : Int} {v : Int32} (hX : Yok X S K A cc own nL rm) (d : decode cc pc = .ok (.sipush n, 3)) (hv0 : (Int16.ofInt n).toInt32 = v) (kk : Y X S K A kc kn bl (pc + 3) lv (.int v :: st)) : Y X S K A kc kn bl pc lv (st) := by
  obtain ⟨p, l, e, R, s, m, args, below, meth, c, Q⟩ := X
  exact fun H locs ls hP hD hS hv => lv_sipush hX.1 hX.2.1 d hv0 (kk H locs ls hP hD hS hv)
theorem Y_lconst {n : Fin 2} {v : Int64} (hX : Yok X S K A cc own nL rm) (d : decode cc pc = .ok (.lconst n, 1)) (hv0 : Int64.ofNat (n : Nat) = v) (kk : Y X S K A kc kn bl (pc + 1) lv (.long v :: st)) : Y X S K A kc kn bl pc lv (st) := by
  obtain ⟨p, l, e, R, s, m, args, below, meth, c, Q⟩ := X
  exact fun H locs ls hP hD hS hv => lv_lconst hX.1 hX.2.1 d hv0 (kk H locs ls hP hD hS hv)
theorem Y_dup {a : Value} (hX : Yok X S K A cc own nL rm) (d : decode cc pc = .ok (.dup, 1)) (ha : a.category = 1) (kk : Y X S K A kc kn bl (pc + 1) lv (a :: a :: st)) : Y X S K A kc kn bl pc lv (a :: st) := by
  obtain ⟨p, l, e, R, s, m, args, below, meth, c, Q⟩ := X
  exact fun H locs ls hP hD hS hv => lv_dup hX.1 hX.2.1 d ha (kk H locs ls hP hD hS hv)
theorem Y_pop {a : Value} (hX : Yok X S K A cc own nL rm) (d : decode cc pc = .ok (.pop, 1)) (ha : a.category = 1) (kk : Y X S K A kc kn bl (pc + 1) lv (st)) : Y X S K A kc kn bl pc lv (a :: st) := by
  obtain ⟨p, l, e, R, s, m, args, below, meth, c, Q⟩ := X
  exact fun H locs ls hP hD hS hv => lv_pop hX.1 hX.2.1 d ha (kk H locs ls hP hD hS hv)
theorem Y_dup_x1 {a b : Value} (hX : Yok X S K A cc own nL rm) (d : decode cc pc = .ok (.dup_x1, 1)) (ha : a.category = 1) (hb : b.category = 1) (kk : Y X S K A kc kn bl (pc + 1) lv (a :: b :: a :: st)) : Y X S K A kc kn bl pc lv (a :: b :: st) := by
  obtain ⟨p, l, e, R, s, m, args, below, meth, c, Q⟩ := X
  exact fun H locs ls hP hD hS hv => lv_dup_x1 hX.1 hX.2.1 d ha hb (kk H locs ls hP hD hS hv)
theorem Y_null (hX : Yok X S K A cc own nL rm) (d : decode cc pc = .ok (.aconst_null, 1)) (kk : Y X S K A kc kn bl (pc + 1) lv (.null :: st)) : Y X S K A kc kn bl pc lv (st) := by
  obtain ⟨p, l, e, R, s, m, args, below, meth, c, Q⟩ := X
  exact fun H locs ls hP hD hS hv => lv_null hX.1 hX.2.1 d (kk H locs ls hP hD hS hv)
theorem Y_if_eq {x : Int32} {off : Int} {tgt : Nat} (hX : Yok X S K A cc own nL rm) (d : decode cc pc = .ok (.ifCond .eq off, 3)) (ht : (pc : Int) + off = (tgt : Int)) (kt : x = 0 → Y X S K A kc kn bl tgt lv st) (kf : ¬ x = 0 → Y X S K A kc kn bl (pc + 3) lv st) : Y X S K A kc kn bl pc lv (.int x :: st) := by
  obtain ⟨p, l, e, R, s, m, args, below, meth, c, Q⟩ := X
  exact fun H locs ls hP hD hS hv => lv_if_eq hX.1 hX.2.1 d ht (fun h => kt h H locs ls hP hD hS hv) (fun h => kf h H locs ls hP hD hS hv)
theorem Y_if_lt {x : Int32} {off : Int} {tgt : Nat} (hX : Yok X S K A cc own nL rm) (d : decode cc pc = .ok (.ifCond .lt off, 3)) (ht : (pc : Int) + off = (tgt : Int)) (kt : x < 0 → Y X S K A kc kn bl tgt lv st) (kf : ¬ x < 0 → Y X S K A kc kn bl (pc + 3) lv st) : Y X S K A kc kn bl pc lv (.int x :: st) := by
  obtain ⟨p, l, e, R, s, m, args, below, meth, c, Q⟩ := X
  exact fun H locs ls hP hD hS hv => lv_if_lt hX.1 hX.2.1 d ht (fun h => kt h H locs ls hP hD hS hv) (fun h => kf h H locs ls hP hD hS hv)
theorem Y_if_ge {x : Int32} {off : Int} {tgt : Nat} (hX : Yok X S K A cc own nL rm) (d : decode cc pc = .ok (.ifCond .ge off, 3)) (ht : (pc : Int) + off = (tgt : Int)) (kt : 0 ≤ x → Y X S K A kc kn bl tgt lv st) (kf : ¬ 0 ≤ x → Y X S K A kc kn bl (pc + 3) lv st) : Y X S K A kc kn bl pc lv (.int x :: st) := by
  obtain ⟨p, l, e, R, s, m, args, below, meth, c, Q⟩ := X
  exact fun H locs ls hP hD hS hv => lv_if_ge hX.1 hX.2.1 d ht (fun h => kt h H locs ls hP hD hS hv) (fun h => kf h H locs ls hP hD hS hv)
theorem Y_if_gt {x : Int32} {off : Int} {tgt : Nat} (hX : Yok X S K A cc own nL rm) (d : decode cc pc = .ok (.ifCond .gt off, 3)) (ht : (pc : Int) + off = (tgt : Int)) (kt : 0 < x → Y X S K A kc kn bl tgt lv st) (kf : ¬ 0 < x → Y X S K A kc kn bl (pc + 3) lv st) : Y X S K A kc kn bl pc lv (.int x :: st) := by
  obtain ⟨p, l, e, R, s, m, args, below, meth, c, Q⟩ := X
  exact fun H locs ls hP hD hS hv => lv_if_gt hX.1 hX.2.1 d ht (fun h => kt h H locs ls hP hD hS hv) (fun h => kf h H locs ls hP hD hS hv)
theorem Y_if_le {x : Int32} {off : Int} {tgt : Nat} (hX : Yok X S K A cc own nL rm) (d : decode cc pc = .ok (.ifCond .le off, 3)) (ht : (pc : Int) + off = (tgt : Int)) (kt : x ≤ 0 → Y X S K A kc kn bl tgt lv st) (kf : ¬ x ≤ 0 → Y X S K A kc kn bl (pc + 3) lv st) : Y X S K A kc kn bl pc lv (.int x :: st) := by
  obtain ⟨p, l, e, R, s, m, args, below, meth, c, Q⟩ := X
  exact fun H locs ls hP hD hS hv => lv_if_le hX.1 hX.2.1 d ht (fun h => kt h H locs ls hP hD hS hv) (fun h => kf h H locs ls hP hD hS hv)
theorem Y_icmp_eq {x y : Int32} {off : Int} {tgt : Nat} (hX : Yok X S K A cc own nL rm) (d : decode cc pc = .ok (.if_icmp .eq off, 3)) (ht : (pc : Int) + off = (tgt : Int)) (kt : x = y → Y X S K A kc kn bl tgt lv st) (kf : ¬ x = y → Y X S K A kc kn bl (pc + 3) lv st) : Y X S K A kc kn bl pc lv (.int y :: .int x :: st) := by
  obtain ⟨p, l, e, R, s, m, args, below, meth, c, Q⟩ := X
  exact fun H locs ls hP hD hS hv => lv_icmp_eq hX.1 hX.2.1 d ht (fun h => kt h H locs ls hP hD hS hv) (fun h => kf h H locs ls hP hD hS hv)
theorem Y_icmp_lt {x y : Int32} {off : Int} {tgt : Nat} (hX : Yok X S K A cc own nL rm) (d : decode cc pc = .ok (.if_icmp .lt off, 3)) (ht : (pc : Int) + off = (tgt : Int)) (kt : x < y → Y X S K A kc kn bl tgt lv st) (kf : ¬ x < y → Y X S K A kc kn bl (pc + 3) lv st) : Y X S K A kc kn bl pc lv (.int y :: .int x :: st) := by
  obtain ⟨p, l, e, R, s, m, args, below, meth, c, Q⟩ := X
  exact fun H locs ls hP hD hS hv => lv_icmp_lt hX.1 hX.2.1 d ht (fun h => kt h H locs ls hP hD hS hv) (fun h => kf h H locs ls hP hD hS hv)
theorem Y_icmp_ge {x y : Int32} {off : Int} {tgt : Nat} (hX : Yok X S K A cc own nL rm) (d : decode cc pc = .ok (.if_icmp .ge off, 3)) (ht : (pc : Int) + off = (tgt : Int)) (kt : y ≤ x → Y X S K A kc kn bl tgt lv st) (kf : ¬ y ≤ x → Y X S K A kc kn bl (pc + 3) lv st) : Y X S K A kc kn bl pc lv (.int y :: .int x :: st) := by
  obtain ⟨p, l, e, R, s, m, args, below, meth, c, Q⟩ := X
  exact fun H locs ls hP hD hS hv => lv_icmp_ge hX.1 hX.2.1 d ht (fun h => kt h H locs ls hP hD hS hv) (fun h => kf h H locs ls hP hD hS hv)
theorem Y_icmp_gt {x y : Int32} {off : Int} {tgt : Nat} (hX : Yok X S K A cc own nL rm) (d : decode cc pc = .ok (.if_icmp .gt off, 3)) (ht : (pc : Int) + off = (tgt : Int)) (kt : y < x → Y X S K A kc kn bl tgt lv st) (kf : ¬ y < x → Y X S K A kc kn bl (pc + 3) lv st) : Y X S K A kc kn bl pc lv (.int y :: .int x :: st) := by
  obtain ⟨p, l, e, R, s, m, args, below, meth, c, Q⟩ := X
  exact fun H locs ls hP hD hS hv => lv_icmp_gt hX.1 hX.2.1 d ht (fun h => kt h H locs ls hP hD hS hv) (fun h => kf h H locs ls hP hD hS hv)
theorem Y_icmp_le {x y : Int32} {off : Int} {tgt : Nat} (hX : Yok X S K A cc own nL rm) (d : decode cc pc = .ok (.if_icmp .le off, 3)) (ht : (pc : Int) + off = (tgt : Int)) (kt : x ≤ y → Y X S K A kc kn bl tgt lv st) (kf : ¬ x ≤ y → Y X S K A kc kn bl (pc + 3) lv st) : Y X S K A kc kn bl pc lv (.int y :: .int x :: st) := by
  obtain ⟨p, l, e, R, s, m, args, below, meth, c, Q⟩ := X
  exact fun H locs ls hP hD hS hv => lv_icmp_le hX.1 hX.2.1 d ht (fun h => kt h H locs ls hP hD hS hv) (fun h => kf h H locs ls hP hD hS hv)
theorem Y_if_ne {x : Int32} {off : Int} {tgt : Nat} (hX : Yok X S K A cc own nL rm) (d : decode cc pc = .ok (.ifCond .ne off, 3)) (ht : (pc : Int) + off = (tgt : Int)) (kt : ¬ x = 0 → Y X S K A kc kn bl tgt lv st) (kf : x = 0 → Y X S K A kc kn bl (pc + 3) lv st) : Y X S K A kc kn bl pc lv (.int x :: st) := by
  obtain ⟨p, l, e, R, s, m, args, below, meth, c, Q⟩ := X
  exact fun H locs ls hP hD hS hv => lv_if_ne hX.1 hX.2.1 d ht (fun h => kt h H locs ls hP hD hS hv) (fun h => kf h H locs ls hP hD hS hv)
theorem Y_icmp_ne {x y : Int32} {off : Int} {tgt : Nat} (hX : Yok X S K A cc own nL rm) (d : decode cc pc = .ok (.if_icmp .ne off, 3)) (ht : (pc : Int) + off = (tgt : Int)) (kt : ¬ x = y → Y X S K A kc kn bl tgt lv st) (kf : x = y → Y X S K A kc kn bl (pc + 3) lv st) : Y X S K A kc kn bl pc lv (.int y :: .int x :: st) := by
  obtain ⟨p, l, e, R, s, m, args, below, meth, c, Q⟩ := X
  exact fun H locs ls hP hD hS hv => lv_icmp_ne hX.1 hX.2.1 d ht (fun h => kt h H locs ls hP hD hS hv) (fun h => kf h H locs ls hP hD hS hv)
theorem Y_iload_n {k : Fin 4} {x : Int32} (hX : Yok X S K A cc own nL rm) (d : decode cc pc = .ok (.iload_n k, 1)) (j : Nat) (hj : lv[j]? = some ((k : Nat), .int x)) (kk : Y X S K A kc kn bl (pc + 1) lv (.int x :: st)) : Y X S K A kc kn bl pc lv st := by
  obtain ⟨p, l, e, R, s, m, args, below, meth, c, Q⟩ := X
  exact fun H locs ls hP hD hS hv => lv_iload_n hX.1 hX.2.1 d rfl (lv_at hv j hj) (kk H locs ls hP hD hS hv)
theorem Y_iload {i : Nat} {x : Int32} (hX : Yok X S K A cc own nL rm) (d : decode cc pc = .ok (.iload i, 2)) (j : Nat) (hj : lv[j]? = some (i, .int x)) (kk : Y X S K A kc kn bl (pc + 2) lv (.int x :: st)) : Y X S K A kc kn bl pc lv st := by
  obtain ⟨p, l, e, R, s, m, args, below, meth, c, Q⟩ := X
  exact fun H locs ls hP hD hS hv => lv_iload hX.1 hX.2.1 d (lv_at hv j hj) (kk H locs ls hP hD hS hv)
theorem Y_lload_n {k : Fin 4} {x : Int64} (hX : Yok X S K A cc own nL rm) (d : decode cc pc = .ok (.lload_n k, 1)) (j : Nat) (hj : lv[j]? = some ((k : Nat), .long x)) (kk : Y X S K A kc kn bl (pc + 1) lv (.long x :: st)) : Y X S K A kc kn bl pc lv st := by
  obtain ⟨p, l, e, R, s, m, args, below, meth, c, Q⟩ := X
  exact fun H locs ls hP hD hS hv => lv_lload_n hX.1 hX.2.1 d rfl (lv_at hv j hj) (kk H locs ls hP hD hS hv)
theorem Y_lload {i : Nat} {x : Int64} (hX : Yok X S K A cc own nL rm) (d : decode cc pc = .ok (.lload i, 2)) (j : Nat) (hj : lv[j]? = some (i, .long x)) (kk : Y X S K A kc kn bl (pc + 2) lv (.long x :: st)) : Y X S K A kc kn bl pc lv st := by
  obtain ⟨p, l, e, R, s, m, args, below, meth, c, Q⟩ := X
  exact fun H locs ls hP hD hS hv => lv_lload hX.1 hX.2.1 d (lv_at hv j hj) (kk H locs ls hP hD hS hv)
theorem Y_istore_n {k : Fin 4} {x : Int32} (hX : Yok X S K A cc own nL rm) (d : decode cc pc = .ok (.istore_n k, 1)) (hn : (k : Nat) < nL) (hl : ((k : Nat), Value.int x) :: lv.filter (fun q => !(q.1 == (k : Nat)) && !(q.1 + 1 == (k : Nat) && q.2.category == 2)) = lv') (kk : Y X S K A kc kn bl (pc + 1) lv' st) : Y X S K A kc kn bl pc lv (.int x :: st) := by
  obtain ⟨p, l, e, R, s, m, args, below, meth, c, Q⟩ := X
  obtain ⟨h1, h2, rfl, -⟩ := hX
  exact fun H locs ls hP hD hS hv => lv_istore_n h1 h2 d rfl hv hn hl (fun ls' hv' => kk H locs ls' hP hD hS hv')
theorem Y_istore {i : Nat} {x : Int32} (hX : Yok X S K A cc own nL rm) (d : decode cc pc = .ok (.istore i, 2)) (hn : i < nL) (hl : (i, Value.int x) :: lv.filter (fun q => !(q.1 == i) && !(q.1 + 1 == i && q.2.category == 2)) = lv') (kk : Y X S K A kc kn bl (pc + 2) lv' st) : Y X S K A kc kn bl pc lv (.int x :: st) := by
  obtain ⟨p, l, e, R, s, m, args, below, meth, c, Q⟩ := X
  obtain ⟨h1, h2, rfl, -⟩ := hX
  exact fun H locs ls hP hD hS hv => lv_istore h1 h2 d hv hn hl (fun ls' hv' => kk H locs ls' hP hD hS hv')
theorem Y_lstore_n {k : Fin 4} {x : Int64} (hX : Yok X S K A cc own nL rm) (d : decode cc pc = .ok (.lstore_n k, 1)) (hn : (k : Nat) + 1 < nL) (hl : ((k : Nat), Value.long x) :: lv.filter (fun q => !(q.1 == (k : Nat)) && (!(q.1 == (k : Nat) + 1) && !(q.1 + 1 == (k : Nat) && q.2.category == 2))) = lv') (kk : Y X S K A kc kn bl (pc + 1) lv' st) : Y X S K A kc kn bl pc lv (.long x :: st) := by
  obtain ⟨p, l, e, R, s, m, args, below, meth, c, Q⟩ := X
  obtain ⟨h1, h2, rfl, -⟩ := hX
  exact fun H locs ls hP hD hS hv => lv_lstore_n h1 h2 d rfl hv hn hl (fun ls' hv' => kk H locs ls' hP hD hS hv')
theorem Y_lstore {i : Nat} {x : Int64} (hX : Yok X S K A cc own nL rm) (d : decode cc pc = .ok (.lstore i, 2)) (hn : i + 1 < nL) (hl : (i, Value.long x) :: lv.filter (fun q => !(q.1 == i) && (!(q.1 == i + 1) && !(q.1 + 1 == i && q.2.category == 2))) = lv') (kk : Y X S K A kc kn bl (pc + 2) lv' st) : Y X S K A kc kn bl pc lv (.long x :: st) := by
  obtain ⟨p, l, e, R, s, m, args, below, meth, c, Q⟩ := X
  obtain ⟨h1, h2, rfl, -⟩ := hX
  exact fun H locs ls hP hD hS hv => lv_lstore h1 h2 d hv hn hl (fun ls' hv' => kk H locs ls' hP hD hS hv')
theorem Y_iinc {i j : Nat} {n : Int} {x v : Int32} (hX : Yok X S K A cc own nL rm) (d : decode cc pc = .ok (.iinc i n, 3)) (hj : lv[j]? = some (i, .int x)) (hn : i < nL) (hv0 : x + Int32.ofInt n = v) (hl : (i, Value.int v) :: lv.filter (fun q => !(q.1 == i) && !(q.1 + 1 == i && q.2.category == 2)) = lv') (kk : Y X S K A kc kn bl (pc + 3) lv' st) : Y X S K A kc kn bl pc lv st := by
  obtain ⟨p, l, e, R, s, m, args, below, meth, c, Q⟩ := X
  obtain ⟨h1, h2, rfl, -⟩ := hX
  exact fun H locs ls hP hD hS hv => lv_iinc h1 h2 d hv hj hv0 hn hl (fun ls' hv' => kk H locs ls' hP hD hS hv')
theorem Y_goto {off : Int} {tgt : Nat} (hX : Yok X S K A cc own nL rm) (d : decode cc pc = .ok (.goto off, 3)) (ht : (pc : Int) + off = (tgt : Int)) (kk : Y X S K A kc kn bl tgt lv st) : Y X S K A kc kn bl pc lv st := by
  obtain ⟨p, l, e, R, s, m, args, below, meth, c, Q⟩ := X
  exact fun H locs ls hP hD hS hv => lv_goto hX.1 hX.2.1 d ht (kk H locs ls hP hD hS hv)
theorem Y_sub (ks : List Nat) (hl : lv_pick lv ks = lv') (k : Y X S K A kc kn bl pc lv' st) : Y X S K A kc kn bl pc lv st := by
  obtain ⟨p, l, e, R, s, m, args, below, meth, c, Q⟩ := X
  exact fun H locs ls hP hD hS hv => k H locs ls hP hD hS (lv_sub hv ks hl)
theorem Y_tableIn {dflt lo hi : Int} {offs : Array Int} {len : Nat} {x : Int32} {off : Int} {tgt : Nat} (hX : Yok X S K A cc own nL rm) (d : decode cc pc = .ok (.tableswitch dflt lo hi offs, len)) (h1 : ¬ x.toInt < lo) (h2 : ¬ hi < x.toInt) (ho : offs[(x.toInt - lo).toNat]? = some off) (ht : (pc : Int) + off = (tgt : Int)) (kk : Y X S K A kc kn bl tgt lv st) : Y X S K A kc kn bl pc lv (.int x :: st) := by
  obtain ⟨p, l, e, R, s, m, args, below, meth, c, Q⟩ := X
  exact fun H locs ls hP hD hS hv => lv_tableIn hX.1 hX.2.1 d h1 h2 ho ht (kk H locs ls hP hD hS hv)
theorem Y_tableOut {dflt lo hi : Int} {offs : Array Int} {len : Nat} {x : Int32} {tgt : Nat} (hX : Yok X S K A cc own nL rm) (d : decode cc pc = .ok (.tableswitch dflt lo hi offs, len)) (h : x.toInt < lo ∨ hi < x.toInt) (ht : (pc : Int) + dflt = (tgt : Int)) (kk : Y X S K A kc kn bl tgt lv st) : Y X S K A kc kn bl pc lv (.int x :: st) := by
  obtain ⟨p, l, e, R, s, m, args, below, meth, c, Q⟩ := X
  exact fun H locs ls hP hD hS hv => lv_tableOut hX.1 hX.2.1 d h ht (kk H locs ls hP hD hS hv)
theorem Y_lookup {dflt : Int} {ps : Array (Int × Int)} {len : Nat} {x : Int32} {off : Int} {tgt : Nat} (hX : Yok X S K A cc own nL rm) (d : decode cc pc = .ok (.lookupswitch dflt ps, len)) (hp : (ps.toList.zip (ps.toList.drop 1)).all (fun (a, next) => a.1 < next.1) = true) (ho : Op.lookupswitch.offset ps.toList dflt x.toInt = off) (ht : (pc : Int) + off = (tgt : Int)) (kk : Y X S K A kc kn bl tgt lv st) : Y X S K A kc kn bl pc lv (.int x :: st) := by
  obtain ⟨p, l, e, R, s, m, args, below, meth, c, Q⟩ := X
  exact fun H locs ls hP hD hS hv => lv_lookup hX.1 hX.2.1 d hp ho ht (kk H locs ls hP hD hS hv)
theorem Y_ldc {index : Nat} {v : Int32} (hX : Yok X S K A cc own nL rm) (d : decode cc pc = .ok (.ldc index, 2)) (hw : Cond.constant own index v ∈ wall) (kk : Y X S K A kc kn bl (pc + 2) lv (.int v :: st)) : Y X S K A kc kn bl pc lv st := by
  obtain ⟨p, l, e, R, s, m, args, below, meth, c, Q⟩ := X
  obtain ⟨h1, h2, h3, h4, h5, h6, h7⟩ := hX
  exact fun H locs ls hP hD hS hv => lv_ldc h1 h2 h5 (h6 _ hw) d (kk H locs ls hP hD hS hv)
theorem Y_ldcw {index : Nat} {v : Int32} (hX : Yok X S K A cc own nL rm) (d : decode cc pc = .ok (.ldc_w index, 3)) (hw : Cond.constant own index v ∈ wall) (kk : Y X S K A kc kn bl (pc + 3) lv (.int v :: st)) : Y X S K A kc kn bl pc lv st := by
  obtain ⟨p, l, e, R, s, m, args, below, meth, c, Q⟩ := X
  obtain ⟨h1, h2, h3, h4, h5, h6, h7⟩ := hX
  exact fun H locs ls hP hD hS hv => lv_ldcw h1 h2 h5 (h6 _ hw) d (kk H locs ls hP hD hS hv)
theorem Y_ldc2 {index : Nat} {v : Int64} (hX : Yok X S K A cc own nL rm) (d : decode cc pc = .ok (.ldc2_w index, 3)) (hw : Cond.constantLong own index v ∈ wall) (kk : Y X S K A kc kn bl (pc + 3) lv (.long v :: st)) : Y X S K A kc kn bl pc lv st := by
  obtain ⟨p, l, e, R, s, m, args, below, meth, c, Q⟩ := X
  obtain ⟨h1, h2, h3, h4, h5, h6, h7⟩ := hX
  exact fun H locs ls hP hD hS hv => lv_ldc2 h1 h2 h5 (h6 _ hw) d (kk H locs ls hP hD hS hv)
theorem Y_aload_n {k : Fin 4} {x : Nat} (hX : Yok X S K A cc own nL rm) (d : decode cc pc = .ok (.aload_n k, 1)) (j : Nat) (hj : lv[j]? = some ((k : Nat), .ref x)) (kk : Y X S K A kc kn bl (pc + 1) lv (.ref x :: st)) : Y X S K A kc kn bl pc lv st := by
  obtain ⟨p, l, e, R, s, m, args, below, meth, c, Q⟩ := X
  exact fun H locs ls hP hD hS hv => lv_aload_n hX.1 hX.2.1 d rfl (lv_at hv j hj) (kk H locs ls hP hD hS hv)
theorem Y_aload {i : Nat} {x : Nat} (hX : Yok X S K A cc own nL rm) (d : decode cc pc = .ok (.aload i, 2)) (j : Nat) (hj : lv[j]? = some (i, .ref x)) (kk : Y X S K A kc kn bl (pc + 2) lv (.ref x :: st)) : Y X S K A kc kn bl pc lv st := by
  obtain ⟨p, l, e, R, s, m, args, below, meth, c, Q⟩ := X
  exact fun H locs ls hP hD hS hv => lv_aload hX.1 hX.2.1 d (lv_at hv j hj) (kk H locs ls hP hD hS hv)
theorem Y_astore_n {k : Fin 4} {x : Nat} (hX : Yok X S K A cc own nL rm) (d : decode cc pc = .ok (.astore_n k, 1)) (hn : (k : Nat) < nL) (hl : ((k : Nat), Value.ref x) :: lv.filter (fun q => !(q.1 == (k : Nat)) && !(q.1 + 1 == (k : Nat) && q.2.category == 2)) = lv') (kk : Y X S K A kc kn bl (pc + 1) lv' st) : Y X S K A kc kn bl pc lv (.ref x :: st) := by
  obtain ⟨p, l, e, R, s, m, args, below, meth, c, Q⟩ := X
  obtain ⟨h1, h2, rfl, -⟩ := hX
  exact fun H locs ls hP hD hS hv => lv_astore_n h1 h2 d rfl hv hn hl (fun ls' hv' => kk H locs ls' hP hD hS hv')
theorem Y_astore {i : Nat} {x : Nat} (hX : Yok X S K A cc own nL rm) (d : decode cc pc = .ok (.astore i, 2)) (hn : i < nL) (hl : (i, Value.ref x) :: lv.filter (fun q => !(q.1 == i) && !(q.1 + 1 == i && q.2.category == 2)) = lv') (kk : Y X S K A kc kn bl (pc + 2) lv' st) : Y X S K A kc kn bl pc lv (.ref x :: st) := by
  obtain ⟨p, l, e, R, s, m, args, below, meth, c, Q⟩ := X
  obtain ⟨h1, h2, rfl, -⟩ := hX
  exact fun H locs ls hP hD hS hv => lv_astore h1 h2 d hv hn hl (fun ls' hv' => kk H locs ls' hP hD hS hv')
theorem Y_topi {x : Int32} (k : ∀ y : Int32, y = x → Y X S K A kc kn bl pc lv (.int y :: st)) : Y X S K A kc kn bl pc lv (.int x :: st) := k x rfl
theorem Y_topl {x : Int64} (k : ∀ y : Int64, y = x → Y X S K A kc kn bl pc lv (.long y :: st)) : Y X S K A kc kn bl pc lv (.long x :: st) := k x rfl
theorem Y_bl (h : bl = bl') (kk : Y X S K A kc kn bl' pc lv st) : Y X S K A kc kn bl pc lv st := h ▸ kk
theorem Y_fl (h : bl.flatten = bl'.flatten) (kk : Y X S K A kc kn bl' pc lv st) : Y X S K A kc kn bl pc lv st := by
  obtain ⟨p, l, e, R, s, m, args, below, meth, c, Q⟩ := X
  intro H locs ls hP hD hS hl
  rw [h] at hP hD
  exact kk H locs ls hP hD hS hl
theorem Y_pick (is : List Nat) (hn : is.Nodup) (h : is.filterMap (fun i => bl[i]?) = bl') (kk : Y X S K A kc kn bl' pc lv st) : Y X S K A kc kn bl pc lv st := by
  obtain ⟨p, l, e, R, s, m, args, below, meth, c, Q⟩ := X
  intro H locs ls hP hD hS hl
  obtain ⟨h1, h2⟩ := fl_pick hD is hn
  rw [h] at h1 h2
  exact kk H locs ls (vaP_iff.mpr fun x hx => vaP_iff.mp hP x (h2 x hx)) h1 hS hl
theorem Y_wd {kc' kn' : Nat} (h1 : kc ≤ kc') (h2 : kn ≤ kn') (kk : Y X S K A kc' kn' bl pc lv st) : Y X S K A kc kn bl pc lv st := by
  obtain ⟨p, l, e, R, s, m, args, below, meth, c, Q⟩ := X
  exact fun H locs ls hP hD hS hl => W.widen h1 h2 (kk H locs ls hP hD hS hl)
theorem Y_get {a ci k index : Nat} {fs : List Value} {v : Value} {ws : va_W} (b i : Nat) (hX : Yok X S K A cc own nL rm) (hf : FLk own index ci k) (hb : bl[b]? = some ws) (he : ws[i]? = some (a, .inr (ci, fs))) (hv : fs[k]? = some v) (d : decode cc pc = .ok (.getfield index, 3)) (kk : Y X S K A kc kn bl (pc + 3) lv (v :: st)) : Y X S K A kc kn bl pc lv (.ref a :: st) := by
  obtain ⟨p, l, e, R, s, m, args, below, meth, c, Q⟩ := X
  obtain ⟨h1, h2, h3, rfl, h5, h6, h7, h8, h9⟩ := hX
  obtain ⟨C, T, N, f1, f2, f3, f4⟩ := hf
  obtain ⟨q0, g1, -⟩ := fl_at hb he
  exact fun H locs ls hP hD hS hl => va_get (Ts := wall) h1 h2 h6 f4 h5 h7 hP q0 g1 f1 k f2 (h6 _ f3) (fun _ h9 => h9) hv d (kk H locs ls hP hD hS hl)
theorem Y_put {a ci k index : Nat} {fs : List Value} {ty : FieldType} {v : Value} {ws : va_W} (b i : Nat) (hX : Yok X S K A cc own nL rm) (hf : FLw own index ci k ty) (hb : bl[b]? = some ws) (he : ws[i]? = some (a, .inr (ci, fs))) (hn : narrow ty v = v ∧ fits ty v = true ∧ k < fs.length) (d : decode cc pc = .ok (.putfield index, 3)) (kk : Y X S K A kc kn (bl.set b (ws.set i (a, .inr (ci, fs.set k v)))) (pc + 3) lv st) : Y X S K A kc kn bl pc lv (v :: .ref a :: st) := by
  obtain ⟨p, l, e, R, s, m, args, below, meth, c, Q⟩ := X
  obtain ⟨h1, h2, h3, rfl, h5, h6, h7, h8, h9⟩ := hX
  obtain ⟨C, T, N, ty0, f1, f2, f3, f4, f5, f6, f7, f8⟩ := hf
  obtain ⟨q0, g1, g2⟩ := fl_at hb he
  refine fun H locs ls hP hD hS hl => va_put (Ts := wall) h1 h2 h6 f4 ty0 f5 f6 h5 h7 hP hD hS q0 g1 f1 k f2 (h6 _ f3) (fun _ h9 => h9) f7 f8 hn.1 hn.2.1 hn.2.2 d (fun H1 locs1 hP1 hD1 hS1 => ?_)
  rw [g2] at hP1 hD1
  exact kk H1 locs1 ls hP1 hD1 hS1 hl
theorem Y_alen {a t0 : Nat} {cA : ClassId} {x : vp_A} {ty : FieldType} {v : Int32} {ws : va_W} (b i : Nat) (hX : Yok X S K A cc own nL rm) (hb : bl[b]? = some ws) (he : ws[i]? = some (a, .inl (cA, x))) (ht : (tyY S K)[t0]? = some (cA, ty)) (hv : Int32.ofNat x.1 = v) (d : decode cc pc = .ok (.arraylength, 1)) (kk : Y X S K A kc kn bl (pc + 1) lv (.int v :: st)) : Y X S K A kc kn bl pc lv (.ref a :: st) := by
  obtain ⟨p, l, e, R, s, m, args, below, meth, c, Q⟩ := X
  obtain ⟨h1, h2, h3, rfl, h5, h6, h7, h8, h9⟩ := hX
  obtain ⟨q0, g1, -⟩ := fl_at hb he
  exact fun H locs ls hP hD hS hl => va_alen h1 h2 h7 hP q0 t0 g1 ht hv d (kk H locs ls hP hD hS hl)
theorem Y_iald {a n : Nat} {f : Nat → Int32} {j : Int32} {v : Int32} {ws : va_W} (b i : Nat) (hX : Yok X S K A cc own nL rm) (hb : bl[b]? = some ws) (he : ws[i]? = some (a, .inl (cAr S 0, n, .inl f))) (hin : vp_in j n) (hv : f j.toNatClampNeg = v) (d : decode cc pc = .ok (.iaload, 1)) (kk : Y X S K A kc kn bl (pc + 1) lv (.int v :: st)) : Y X S K A kc kn bl pc lv (.int j :: .ref a :: st) := by
  obtain ⟨p, l, e, R, s, m, args, below, meth, c, Q⟩ := X
  obtain ⟨h1, h2, h3, rfl, h5, h6, h7, h8, h9⟩ := hX
  obtain ⟨q0, g1, -⟩ := fl_at hb he
  subst hv
  exact fun H locs ls hP hD hS hl => va_iald h1 h2 h7 hP q0 0 g1 rfl hin d (kk H locs ls hP hD hS hl)
theorem Y_zald {a n : Nat} {f : Nat → Int32} {j : Int32} {v : Int32} {ws : va_W} (b i : Nat) (hX : Yok X S K A cc own nL rm) (hb : bl[b]? = some ws) (he : ws[i]? = some (a, .inl (cAr S 2, n, .inl f))) (hin : vp_in j n) (hv : f j.toNatClampNeg = v) (d : decode cc pc = .ok (.baload, 1)) (kk : Y X S K A kc kn bl (pc + 1) lv (.int v :: st)) : Y X S K A kc kn bl pc lv (.int j :: .ref a :: st) := by
  obtain ⟨p, l, e, R, s, m, args, below, meth, c, Q⟩ := X
  obtain ⟨h1, h2, h3, rfl, h5, h6, h7, h8, h9⟩ := hX
  obtain ⟨q0, g1, -⟩ := fl_at hb he
  subst hv
  exact fun H locs ls hP hD hS hl => va_zald h1 h2 h7 hP q0 2 g1 rfl hin d (kk H locs ls hP hD hS hl)
theorem Y_bald {a n : Nat} {f : Nat → Int32} {j : Int32} {v : Int32} {ws : va_W} (b i : Nat) (hX : Yok X S K A cc own nL rm) (hb : bl[b]? = some ws) (he : ws[i]? = some (a, .inl (K.1 0, n, .inl f))) (hin : vp_in j n) (hv : f j.toNatClampNeg = v) (d : decode cc pc = .ok (.baload, 1)) (kk : Y X S K A kc kn bl (pc + 1) lv (.int v :: st)) : Y X S K A kc kn bl pc lv (.int j :: .ref a :: st) := by
  obtain ⟨p, l, e, R, s, m, args, below, meth, c, Q⟩ := X
  obtain ⟨h1, h2, h3, rfl, h5, h6, h7, h8, h9⟩ := hX
  obtain ⟨q0, g1, -⟩ := fl_at hb he
  subst hv
  exact fun H locs ls hP hD hS hl => va_bald h1 h2 h7 hP q0 4 g1 rfl hin d (kk H locs ls hP hD hS hl)
theorem Y_lald {a n : Nat} {f : Nat → Int64} {j : Int32} {v : Int64} {ws : va_W} (b i : Nat) (hX : Yok X S K A cc own nL rm) (hb : bl[b]? = some ws) (he : ws[i]? = some (a, .inl (cAr S 1, n, .inr (.inl f)))) (hin : vp_in j n) (hv : f j.toNatClampNeg = v) (d : decode cc pc = .ok (.laload, 1)) (kk : Y X S K A kc kn bl (pc + 1) lv (.long v :: st)) : Y X S K A kc kn bl pc lv (.int j :: .ref a :: st) := by
  obtain ⟨p, l, e, R, s, m, args, below, meth, c, Q⟩ := X
  obtain ⟨h1, h2, h3, rfl, h5, h6, h7, h8, h9⟩ := hX
  obtain ⟨q0, g1, -⟩ := fl_at hb he
  subst hv
  exact fun H locs ls hP hD hS hl => va_lald h1 h2 h7 hP q0 1 g1 rfl hin d (kk H locs ls hP hD hS hl)
theorem Y_aaldO {a n : Nat} {f : Nat → Option Nat} {j : Int32} {v : Option Nat} {ws : va_W} (b i : Nat) (hX : Yok X S K A cc own nL rm) (hb : bl[b]? = some ws) (he : ws[i]? = some (a, .inl (K.1 2, n, .inr (.inr (.inr (.inr f)))))) (hin : vp_in j n) (hv : f j.toNatClampNeg = v) (d : decode cc pc = .ok (.aaload, 1)) (kk : Y X S K A kc kn bl (pc + 1) lv (va_rf v :: st)) : Y X S K A kc kn bl pc lv (.int j :: .ref a :: st) := by
  obtain ⟨p, l, e, R, s, m, args, below, meth, c, Q⟩ := X
  obtain ⟨h1, h2, h3, rfl, h5, h6, h7, h8, h9⟩ := hX
  obtain ⟨q0, g1, -⟩ := fl_at hb he
  subst hv
  exact fun H locs ls hP hD hS hl => va_aldq h1 h2 h7 hP q0 6 g1 rfl hin d (kk H locs ls hP hD hS hl)
theorem Y_aaldI {a n : Nat} {f : Nat → Option Nat} {j : Int32} {v : Option Nat} {ws : va_W} (b i : Nat) (hX : Yok X S K A cc own nL rm) (hb : bl[b]? = some ws) (he : ws[i]? = some (a, .inl (K.1 1, n, .inr (.inr (.inr (.inr f)))))) (hin : vp_in j n) (hv : f j.toNatClampNeg = v) (d : decode cc pc = .ok (.aaload, 1)) (kk : Y X S K A kc kn bl (pc + 1) lv (va_rf v :: st)) : Y X S K A kc kn bl pc lv (.int j :: .ref a :: st) := by
  obtain ⟨p, l, e, R, s, m, args, below, meth, c, Q⟩ := X
  obtain ⟨h1, h2, h3, rfl, h5, h6, h7, h8, h9⟩ := hX
  obtain ⟨q0, g1, -⟩ := fl_at hb he
  subst hv
  have hlt : j.toNatClampNeg < n := Nat.not_le.mp fun q => hin (Or.inr q)
  exact fun H locs ls hP hD hS hl => W.aald (v := va_rf (f j.toNatClampNeg)) (ty := .array .int) h1 h2 (hP q0 _ g1) ((h7.2 5 _ rfl).1 n (fun j => va_rf (f j))) rfl (fun q => by cases q) (by show ¬ (j < 0 ∨ (arrV _ _ _).slots.size ≤ _); rw [arrV_size]; exact hin) (by show (arrV _ _ _).slots[_]? = _; rw [arrV_read _ _ hlt]) rfl rfl d (kk H locs ls hP hD hS hl)
theorem Y_iast {a n : Nat} {f : Nat → Int32} {j : Int32} {x : Int32} {ws : va_W} (b i : Nat) (hX : Yok X S K A cc own nL rm) (hb : bl[b]? = some ws) (he : ws[i]? = some (a, .inl (cAr S 0, n, .inl f))) (hin : vp_in j n) (d : decode cc pc = .ok (.iastore, 1)) (kk : Y X S K A kc kn (bl.set b (ws.set i (a, .inl (cAr S 0, n, .inl (upd f j.toNatClampNeg x))))) (pc + 1) lv st) : Y X S K A kc kn bl pc lv (.int x :: .int j :: .ref a :: st) := by
  obtain ⟨p, l, e, R, s, m, args, below, meth, c, Q⟩ := X
  obtain ⟨h1, h2, h3, rfl, h5, h6, h7, h8, h9⟩ := hX
  obtain ⟨q0, g1, g2⟩ := fl_at hb he
  refine fun H locs ls hP hD hS hl => va_iast h1 h2 h7 hP hD hS q0 0 g1 rfl hin d (fun H1 locs1 hP1 hD1 hS1 => ?_)
  rw [g2] at hP1 hD1
  exact kk H1 locs1 ls hP1 hD1 hS1 hl
theorem Y_zast {a n : Nat} {f : Nat → Int32} {j : Int32} {x : Int32} {ws : va_W} (b i : Nat) (hX : Yok X S K A cc own nL rm) (hb : bl[b]? = some ws) (he : ws[i]? = some (a, .inl (cAr S 2, n, .inl f))) (hin : vp_in j n) (d : decode cc pc = .ok (.bastore, 1)) (kk : Y X S K A kc kn (bl.set b (ws.set i (a, .inl (cAr S 2, n, .inl (upd f j.toNatClampNeg (vp_nar .boolean x)))))) (pc + 1) lv st) : Y X S K A kc kn bl pc lv (.int x :: .int j :: .ref a :: st) := by
  obtain ⟨p, l, e, R, s, m, args, below, meth, c, Q⟩ := X
  obtain ⟨h1, h2, h3, rfl, h5, h6, h7, h8, h9⟩ := hX
  obtain ⟨q0, g1, g2⟩ := fl_at hb he
  refine fun H locs ls hP hD hS hl => va_zast h1 h2 h7 hP hD hS q0 2 g1 rfl hin d (fun H1 locs1 hP1 hD1 hS1 => ?_)
  rw [g2] at hP1 hD1
  exact kk H1 locs1 ls hP1 hD1 hS1 hl
theorem Y_bast {a n : Nat} {f : Nat → Int32} {j : Int32} {x : Int32} {ws : va_W} (b i : Nat) (hX : Yok X S K A cc own nL rm) (hb : bl[b]? = some ws) (he : ws[i]? = some (a, .inl (K.1 0, n, .inl f))) (hin : vp_in j n) (d : decode cc pc = .ok (.bastore, 1)) (kk : Y X S K A kc kn (bl.set b (ws.set i (a, .inl (K.1 0, n, .inl (upd f j.toNatClampNeg (vp_nar .byte x)))))) (pc + 1) lv st) : Y X S K A kc kn bl pc lv (.int x :: .int j :: .ref a :: st) := by
  obtain ⟨p, l, e, R, s, m, args, below, meth, c, Q⟩ := X
  obtain ⟨h1, h2, h3, rfl, h5, h6, h7, h8, h9⟩ := hX
  obtain ⟨q0, g1, g2⟩ := fl_at hb he
  refine fun H locs ls hP hD hS hl => va_bast h1 h2 h7 hP hD hS q0 4 g1 rfl hin d (fun H1 locs1 hP1 hD1 hS1 => ?_)
  rw [g2] at hP1 hD1
  exact kk H1 locs1 ls hP1 hD1 hS1 hl
theorem Y_last {a n : Nat} {f : Nat → Int64} {j : Int32} {x : Int64} {ws : va_W} (b i : Nat) (hX : Yok X S K A cc own nL rm) (hb : bl[b]? = some ws) (he : ws[i]? = some (a, .inl (cAr S 1, n, .inr (.inl f)))) (hin : vp_in j n) (d : decode cc pc = .ok (.lastore, 1)) (kk : Y X S K A kc kn (bl.set b (ws.set i (a, .inl (cAr S 1, n, .inr (.inl (vp_updL f j.toNatClampNeg x)))))) (pc + 1) lv st) : Y X S K A kc kn bl pc lv (.long x :: .int j :: .ref a :: st) := by
  obtain ⟨p, l, e, R, s, m, args, below, meth, c, Q⟩ := X
  obtain ⟨h1, h2, h3, rfl, h5, h6, h7, h8, h9⟩ := hX
  obtain ⟨q0, g1, g2⟩ := fl_at hb he
  refine fun H locs ls hP hD hS hl => va_last h1 h2 h7 hP hD hS q0 1 g1 rfl hin d (fun H1 locs1 hP1 hD1 hS1 => ?_)
  rw [g2] at hP1 hD1
  exact kk H1 locs1 ls hP1 hD1 hS1 hl
theorem Y_aastO {a n v ci : Nat} {r : vw_C} {vs : List Value} {f : Nat → Option Nat} {j : Int32} {ws ws' : va_W} (b i b' i' : Nat) (hX : Yok X S K A cc own nL rm) (hb : bl[b]? = some ws) (he : ws[i]? = some (a, .inl (K.1 2, n, .inr (.inr (.inr (.inr f)))))) (hb' : bl[b']? = some ws') (he' : ws'[i']? = some (v, .inr (ci, vs))) (hc : vwCl[ci]? = some r) (hca : (r.1, "java/lang/Object") ∈ cyl) (hin : vp_in j n) (d : decode cc pc = .ok (.aastore, 1)) (kk : Y X S K A kc kn (bl.set b (ws.set i (a, .inl (K.1 2, n, .inr (.inr (.inr (.inr (va_up f j.toNatClampNeg (some v)))))))))  (pc + 1) lv st) : Y X S K A kc kn bl pc lv (.ref v :: .int j :: .ref a :: st) := by
  obtain ⟨p, l, e, R, s, m, args, below, meth, c, Q⟩ := X
  obtain ⟨h1, h2, h3, rfl, h5, h6, h7, h8, h9⟩ := hX
  obtain ⟨q0, g1, g2⟩ := fl_at hb he
  obtain ⟨q1, g3, -⟩ := fl_at hb' he'
  refine fun H locs ls hP hD hS hl => va_astqO h1 h2 h7 hP hD hS q0 6 q1 ci g1 rfl (h9.2.2.2.2 _ hca) g3 hc hin d (fun H1 locs1 hP1 hD1 hS1 => ?_)
  rw [g2] at hP1 hD1
  exact kk H1 locs1 ls hP1 hD1 hS1 hl
theorem Y_aastN {a n : Nat} {f : Nat → Option Nat} {j : Int32} {ws : va_W} (b i : Nat) (hX : Yok X S K A cc own nL rm) (hb : bl[b]? = some ws) (he : ws[i]? = some (a, .inl (K.1 2, n, .inr (.inr (.inr (.inr f)))))) (hin : vp_in j n) (d : decode cc pc = .ok (.aastore, 1)) (kk : Y X S K A kc kn (bl.set b (ws.set i (a, .inl (K.1 2, n, .inr (.inr (.inr (.inr (va_up f j.toNatClampNeg none))))))))  (pc + 1) lv st) : Y X S K A kc kn bl pc lv (.null :: .int j :: .ref a :: st) := by
  obtain ⟨p, l, e, R, s, m, args, below, meth, c, Q⟩ := X
  obtain ⟨h1, h2, h3, rfl, h5, h6, h7, h8, h9⟩ := hX
  obtain ⟨q0, g1, g2⟩ := fl_at hb he
  refine fun H locs ls hP hD hS hl => va_astqN h1 h2 h7 hP hD hS q0 6 g1 rfl hin d (fun H1 locs1 hP1 hD1 hS1 => ?_)
  rw [g2] at hP1 hD1
  exact kk H1 locs1 ls hP1 hD1 hS1 hl
theorem Y_aastI {a n v n2 : Nat} {g0 : Nat → Int32} {f : Nat → Option Nat} {j : Int32} {ws ws' : va_W} (b i b' i' : Nat) (hX : Yok X S K A cc own nL rm) (hb : bl[b]? = some ws) (he : ws[i]? = some (a, .inl (K.1 1, n, .inr (.inr (.inr (.inr f)))))) (hb' : bl[b']? = some ws') (he' : ws'[i']? = some (v, .inl (cAr S 0, n2, .inl g0))) (hin : vp_in j n) (d : decode cc pc = .ok (.aastore, 1)) (kk : Y X S K A kc kn (bl.set b (ws.set i (a, .inl (K.1 1, n, .inr (.inr (.inr (.inr (va_up f j.toNatClampNeg (some v)))))))))  (pc + 1) lv st) : Y X S K A kc kn bl pc lv (.ref v :: .int j :: .ref a :: st) := by
  obtain ⟨p, l, e, R, s, m, args, below, meth, c, Q⟩ := X
  obtain ⟨h1, h2, h3, rfl, h5, h6, h7, h8, h9⟩ := hX
  obtain ⟨q0, g1, g2⟩ := fl_at hb he
  obtain ⟨q1, g3, -⟩ := fl_at hb' he'
  have hlt : j.toNatClampNeg < n := Nat.not_le.mp fun q => hin (Or.inr q)
  have h0 : ¬ j < 0 := fun q => hin (Or.inl q)
  obtain ⟨-, kS, hkS, compS, hkindS⟩ := (h7.2 0 _ rfl).1 n2 (fun j => .int (g0 j))
  have hsI := (h7.2 0 _ rfl).2
  obtain ⟨comp, cA2, kA, hcomp, hidx, hkA, hkindA, hnameA⟩ := arrayOverA_spec h9.2.2.1
  have e : cA2 = K.1 1 := Option.some.inj (hnameA.symm.trans ((h7.2 5 _ rfl).2))
  subst e
  have e2 : comp = cAr S 0 := Option.some.inj (hcomp.symm.trans hsI)
  subst e2
  refine fun H locs ls hP hD hS hl => W.aast h1 h2 (hP q0 _ g1) (fun q h => by cases h) (fun h => by cases h) hkA hkindA rfl hkS ⟨h0, by show _ < (arrV _ _ _).slots.size; rw [arrV_size]; exact hlt⟩ (hP q1 _ g3) (fun q h => by cases h) hkS (va_asg _ _) rfl rfl d (fun H1 e z oq => ?_)
  have hP1 := hP.set hD g1 (e := .inl (K.1 1, n, .inr (.inr (.inr (.inr (va_up f j.toNatClampNeg (some v))))))) (by
    show H1[a]? = some (vp_cell _ _)
    rw [e]
    rw [vp_cell_q, vp_cell_q, arrV_store]
    congr 2
    funext q
    by_cases hq : q = j.toNatClampNeg
    · subst hq
      simp [updV, va_up, va_rf]
    · simp [updV, va_up, hq]) oq
  have hD1 := hD.set g1 (e := .inl (K.1 1, n, .inr (.inr (.inr (.inr (va_up f j.toNatClampNeg (some v)))))))
  rw [g2] at hP1 hD1
  exact kk H1 _ ls hP1 hD1 (hS.put z oq (hD.2 q0 _ g1)) hl
theorem Y_new {index ci N : Nat} {fs : List Value} (hX : Yok X S K A cc own nL rm) (hw : NWk own index ci N fs) (hc : kc + 1 ≤ rm.cells ∧ kn + N ≤ rm.slots) (d : decode cc pc = .ok (.new index, 3)) (kk : ∀ q, Y X S K A (kc + 1) (kn + N) (bl ++ [[(q, .inr (ci, fs))]]) (pc + 3) lv (.ref q :: st)) : Y X S K A kc kn bl pc lv st := by
  obtain ⟨p, l, e, R, s, m, args, below, meth, c, Q⟩ := X
  obtain ⟨h1, h2, h3, rfl, h5, h6, h7, h8, h9⟩ := hX
  obtain ⟨C, T, ty, w1, w2, w3, w4, w5, w6, w7⟩ := hw
  exact fun H locs ls hP hD hS hl => va_new (Ts := wall) h1 h2 h6 w5 ty w6 h5 (h6 _ w2) (h6 _ w3) (h6 _ w4) h7 hP hD hS h8 w1 w7 hc.1 hc.2 d (fun q H1 hP1 hD1 hS1 => kk q H1 locs ls (by rw [fl_push]; exact hP1) (by rw [fl_push]; exact hD1) hS1 hl)
theorem Y_newa {at0 : ArrayType} {ty : FieldType} {t0 n : Nat} {cA0 : ClassId} {v : Int32} {a0 : vp_A} (hX : Yok X S K A cc own nL rm) (hty : newarray.typeOf at0 = ty) (hw : Cond.arrayClass ty ∈ wall) (hi : (tyY S K)[t0]? = some (cA0, ty)) (ha : ∀ cA : ClassId, vp_cell cA a0 = arrV cA n (fun _ => defaultValue ty)) (hv : ¬ v < 0 ∧ v.toNatClampNeg = n ∧ n * componentBytes ty ≤ 536870912) (hc : kc + 1 ≤ rm.cells ∧ kn + n ≤ rm.slots) (d : decode cc pc = .ok (.newarray at0, 2)) (kk : ∀ q, Y X S K A (kc + 1) (kn + n) (bl ++ [[(q, .inl (cA0, a0))]]) (pc + 2) lv (.ref q :: st)) : Y X S K A kc kn bl pc lv (.int v :: st) := by
  obtain ⟨p, l, e, R, s, m, args, below, meth, c, Q⟩ := X
  obtain ⟨h1, h2, h3, rfl, h5, h6, h7, h8, h9⟩ := hX
  subst hty
  refine fun H locs ls hP hD hS hl => va_newa h1 h2 (h6 _ hw) rfl h7 hP hD hS h8 ha hv.1 hv.2.1 hv.2.2 hc.1 hc.2 d (fun q cA H1 hK1 hP1 hD1 hS1 => ?_)
  have e := ar_same hK1 h7 hi
  subst e
  exact kk q H1 locs ls (by rw [fl_push]; exact hP1) (by rw [fl_push]; exact hD1) hS1 hl
theorem Y_newO {index n : Nat} {v : Int32} (hX : Yok X S K A cc own nL rm) (hw : Cond.classLink own index "java/lang/Object" ∈ wall) (hv : ¬ v < 0 ∧ v.toNatClampNeg = n ∧ n * 4 ≤ 536870912) (hc : kc + 1 ≤ rm.cells ∧ kn + n ≤ rm.slots) (d : decode cc pc = .ok (.anewarray index, 3)) (kk : ∀ q, Y X S K A (kc + 1) (kn + n) (bl ++ [[(q, .inl (K.1 2, n, .inr (.inr (.inr (.inr (fun _ => none))))))]]) (pc + 3) lv (.ref q :: st)) : Y X S K A kc kn bl pc lv (.int v :: st) := by
  obtain ⟨p, l, e, R, s, m, args, below, meth, c, Q⟩ := X
  obtain ⟨h1, h2, h3, rfl, h5, h6, h7, h8, h9⟩ := hX
  refine fun H locs ls hP hD hS hl => va_newq h1 h2 h5 (h6 _ hw) h9.2.1 h7 hP hD hS h8 hv.1 hv.2.1 hv.2.2 hc.1 hc.2 d (fun q cA H1 hK1 hP1 hD1 hS1 => ?_)
  have e := ar_same (i := 6) hK1 h7 rfl
  subst e
  exact kk q H1 locs ls (by rw [fl_push]; exact hP1) (by rw [fl_push]; exact hD1) hS1 hl
theorem Y_newI {index n : Nat} {v : Int32} (hX : Yok X S K A cc own nL rm) (hw : Cond.classLink own index (FieldType.array .int).toString ∈ wall) (hv : ¬ v < 0 ∧ v.toNatClampNeg = n ∧ n * 4 ≤ 536870912) (hc : kc + 1 ≤ rm.cells ∧ kn + n ≤ rm.slots) (d : decode cc pc = .ok (.anewarray index, 3)) (kk : ∀ q, Y X S K A (kc + 1) (kn + n) (bl ++ [[(q, .inl (K.1 1, n, .inr (.inr (.inr (.inr (fun _ => none))))))]]) (pc + 3) lv (.ref q :: st)) : Y X S K A kc kn bl pc lv (.int v :: st) := by
  obtain ⟨p, l, e, R, s, m, args, below, meth, c, Q⟩ := X
  obtain ⟨h1, h2, h3, rfl, h5, h6, h7, h8, h9⟩ := hX
  obtain ⟨v1, rfl, v3⟩ := hv
  refine fun H locs ls hP hD hS hl => W.anewA h1 h2 h5 (h6 _ hw) h9.2.2.1 rfl d rfl v1 v3 hc.1 hc.2 (fun cA kA comp f1 f2 f3 f4 => ?_)
  have e : cA = K.1 1 := Option.some.inj (f1.symm.trans ((h7.2 5 _ rfl).2))
  subst e
  generalize hH1 : H.push ({ cls := K.1 1, slots := Array.replicate v.toNatClampNeg .null, vm := .none } : Cell) = H1
  have z1 : H1.size = H.size + 1 := by rw [← hH1, Array.size_push]
  have e1 : H1[H.size]? = some (arrV (K.1 1) v.toNatClampNeg (fun _ => .null)) := by rw [← hH1, Array.getElem?_push_size, ← arrV_new]
  have o1 : ∀ q : Nat, q < H.size → H1[q]? = H[q]? := fun q hq => by rw [← hH1, Array.getElem?_push, if_neg (Nat.ne_of_lt hq)]
  refine kk H.size H1 locs ls ?_ ?_ ⟨Nat.le_trans hS.1 (by omega), fun x h1 h2 => (o1 x (Nat.lt_of_lt_of_le h1 hS.1)).trans (hS.2.1 x h1 h2), hS.2.2⟩ hl
  · rw [fl_push]
    refine (hP.kept (fun k x hx => o1 x.1 (hP k x hx).lt)).app (fun k x hx => ?_)
    have hz : k < 1 := (List.getElem?_eq_some_iff.mp hx).1
    rw [show k = 0 by omega] at hx
    cases hx
    show H1[H.size]? = some (vp_cell _ _)
    rw [vp_cell_q]
    exact e1
  · rw [fl_push]
    exact hD.push hP rfl (h8 _ hS.1)
end YR
def YIn (X : Cx) (y : MethodName) : Prop := match X with
  | (_, _, _, _, _, _, _, _, meth, _, _) => meth.name = y.name
section YR2
variable {X : Cx} {S : Sx} {K : Kx} {A : Nat → Prop} {E : Ex} {kc kn : Nat} {bl bl' : Bk} {cc : ByteArray} {own : String} {nL : Nat} {rm : Room} {pc : Nat} {lv lv' : List (Nat × Value)} {st : List Value}
/-- a class's array of whole numbers is copied -/
def CLk (own : String) (index : Nat) (ad : String) : Prop := Cond.methodLink own index ⟨ad, "clone", "()Ljava/lang/Object;"⟩ ∈ wall ∧ Cond.sameMethod ad "java/lang/Object" "clone" "()Ljava/lang/Object;" ∈ wall ∧ Cond.native ⟨"java/lang/Object", "clone", "()Ljava/lang/Object;"⟩ ∈ wall ∧ Cond.instanceMethod ⟨"java/lang/Object", "clone", "()Ljava/lang/Object;"⟩ ∈ wall ∧ Cond.selects ad ⟨ad, "clone", "()Ljava/lang/Object;"⟩ ⟨"java/lang/Object", "clone", "()Ljava/lang/Object;"⟩ ∈ wall ∧ (ad, "java/lang/Cloneable") ∈ cyl
theorem Y_clone {a t0 index : Nat} {cA : ClassId} {x : vp_A} {ty : FieldType} {ad : String} {ws : va_W} (b i : Nat) (hX : Yok X S K A cc own nL rm) (hk : CLk own index ad) (hb : bl[b]? = some ws) (he : ws[i]? = some (a, .inl (cA, x))) (ht : (tyY S K)[t0]? = some (cA, ty)) (hty : ty.isReference = false ∧ "[" ++ ty.toString = ad) (hfit : ∀ (i : Nat) (v : Value), (vp_cell cA x).slots[i]? = some v → fits ty v = true) (hR : 1 ≤ rm.frames ∧ (st.map fun v => v.category).sum + 14 ≤ rm.locals) (hc : kc + 1 ≤ rm.cells ∧ kn + x.1 ≤ rm.slots) (d : decode cc pc = .ok (.invokevirtual index, 3)) (kk : ∀ q, Y X S K A (kc + 1) (kn + x.1) (bl ++ [[(q, .inl (cA, x))]]) (pc + 3) lv (.ref q :: st)) : Y X S K A kc kn bl pc lv (.ref a :: st) := by
  obtain ⟨p, l, e, R, s, m, args, below, meth, c, Q⟩ := X
  obtain ⟨h1, h2, h3, rfl, h5, h6, h7, h8, h9⟩ := hX
  obtain ⟨k1, k2, k3, k4, k5, k6⟩ := hk
  obtain ⟨q0, g1, -⟩ := fl_at hb he
  obtain ⟨hty1, rfl⟩ := hty
  have hnm : s.vm.findClass ("[" ++ ty.toString) = some cA := by
    have := (h7.2 t0 _ ht).2
    cases ty with
    | object C => cases hty1
    | _ => exact this
  refine fun H locs ls hP hD hS hl => va_clone h1 h2 hl.1.symm h5 (h6 _ k1) (h6 _ k2) (h6 _ k3) (h6 _ k4) (h6 _ k5) (h9.2.2.2.2 _ k6) h7 hP hD hS h8 q0 t0 g1 ht hnm hfit hR.1 hR.2 hc.1 hc.2 d (fun q H1 hK1 hP1 hD1 hS1 => ?_)
  exact kk q H1 locs ls (by rw [fl_push]; exact hP1) (by rw [fl_push]; exact hD1) hS1 hl
theorem Y_castA {a t0 index : Nat} {cA : ClassId} {x : vp_A} {ty : FieldType} {nm : String} {ws : va_W} (b i : Nat) (hX : Yok X S K A cc own nL rm) (hw : Cond.classLink own index nm ∈ wall) (hb : bl[b]? = some ws) (he : ws[i]? = some (a, .inl (cA, x))) (ht : (tyY S K)[t0]? = some (cA, ty)) (hty : ty.isReference = false ∧ "[" ++ ty.toString = nm) (d : decode cc pc = .ok (.checkcast index, 3)) (kk : Y X S K A kc kn bl (pc + 3) lv (.ref a :: st)) : Y X S K A kc kn bl pc lv (.ref a :: st) := by
  obtain ⟨p, l, e, R, s, m, args, below, meth, c, Q⟩ := X
  obtain ⟨h1, h2, h3, rfl, h5, h6, h7, h8, h9⟩ := hX
  obtain ⟨q0, g1, -⟩ := fl_at hb he
  obtain ⟨hty1, rfl⟩ := hty
  have hnm : s.vm.findClass ("[" ++ ty.toString) = some cA := by
    have := (h7.2 t0 _ ht).2
    cases ty with
    | object C => cases hty1
    | _ => exact this
  exact fun H locs ls hP hD hS hl => va_castA h1 h2 h5 (h6 _ hw) hP q0 g1 hnm d (kk H locs ls hP hD hS hl)
/-- reading a static of the constants, and a table of them -/
theorem Y_gets {C n ds : String} {v : Value} {index : Nat} (hX : Yok X S K A cc own nL rm) (hE : YE X A E) (hZ : ∀ s, E A s → va_Z C n ds v A s s.heap) (hw : Cond.fieldLink own index C n ds ∈ wall) (d : decode cc pc = .ok (.getstatic index, 3)) (kk : Y X S K A kc kn bl (pc + 3) lv (v :: st)) : Y X S K A kc kn bl pc lv st := by
  obtain ⟨p, l, e, R, s, m, args, below, meth, c, Q⟩ := X
  obtain ⟨h1, h2, h3, rfl, h5, h6, h7, h8, h9⟩ := hX
  exact fun H locs ls hP hD hS hl => va_gets h1 h2 (hZ s hE.2.1) hS h5 (h6 _ hw) (fun _ h9 => h9) d (kk H locs ls hP hD hS hl)
theorem Y_tb {t N : Nat} {f : Nat → Value} {j : Int32} {v : Int32} (hX : Yok X S K A cc own nL rm) (hE : YE X A E) (hT : ∀ s, E A s → va_T .byte t N f A s s.heap) (hin : vp_in j N) (hv : f j.toNatClampNeg = .int v) (d : decode cc pc = .ok (.baload, 1)) (kk : Y X S K A kc kn bl (pc + 1) lv (.int v :: st)) : Y X S K A kc kn bl pc lv (.int j :: .ref t :: st) := by
  obtain ⟨p, l, e, R, s, m, args, below, meth, c, Q⟩ := X
  obtain ⟨h1, h2, h3, rfl, h5, h6, h7, h8, h9⟩ := hX
  exact fun H locs ls hP hD hS hl => va_tb h1 h2 (hT s hE.2.1) hS hin hv d (kk H locs ls hP hD hS hl)
theorem Y_tq {C : String} {t N : Nat} {f : Nat → Value} {j : Int32} {v : Value} (hX : Yok X S K A cc own nL rm) (hE : YE X A E) (hT : ∀ s, E A s → va_T (.object C) t N f A s s.heap) (hin : vp_in j N) (hv : f j.toNatClampNeg = v) (d : decode cc pc = .ok (.aaload, 1)) (kk : Y X S K A kc kn bl (pc + 1) lv (v :: st)) : Y X S K A kc kn bl pc lv (.int j :: .ref t :: st) := by
  obtain ⟨p, l, e, R, s, m, args, below, meth, c, Q⟩ := X
  obtain ⟨h1, h2, h3, rfl, h5, h6, h7, h8, h9⟩ := hX
  exact fun H locs ls hP hD hS hl => vb_tq h1 h2 (hT s hE.2.1) hS hin hv d (kk H locs ls hP hD hS hl)
theorem Y_tlen {ty : FieldType} {t N : Nat} {f : Nat → Value} {v : Int32} (hX : Yok X S K A cc own nL rm) (hE : YE X A E) (hT : ∀ s, E A s → va_T ty t N f A s s.heap) (hv : Int32.ofNat N = v) (d : decode cc pc = .ok (.arraylength, 1)) (kk : Y X S K A kc kn bl (pc + 1) lv (.int v :: st)) : Y X S K A kc kn bl pc lv (.ref t :: st) := by
  obtain ⟨p, l, e, R, s, m, args, below, meth, c, Q⟩ := X
  obtain ⟨h1, h2, h3, rfl, h5, h6, h7, h8, h9⟩ := hX
  exact fun H locs ls hP hD hS hl => va_tlen h1 h2 (hT s hE.2.1) hS hv d (kk H locs ls hP hD hS hl)
theorem Y_ldcS {index k : Nat} {tx : String} (hX : Yok X S K A cc own nL rm) (hE : YE X A E) (hr : ∀ s, E A s → vk_R own index tx (adK S k) s) (d : decode cc pc = .ok (.ldc index, 2)) (kk : Y X S K A kc kn bl (pc + 2) lv (.ref (adK S k) :: st)) : Y X S K A kc kn bl pc lv st := by
  obtain ⟨p, l, e, R, s, m, args, below, meth, c, Q⟩ := X
  obtain ⟨h1, h2, h3, rfl, h5, h6, h7, h8, h9⟩ := hX
  exact fun H locs ls hP hD hS hl => va_ldcS h1 h2 h5 (hr s hE.2.1) d (kk H locs ls hP hD hS hl)
/-- the fields of a text -/
theorem Y_sval {x : Sk} (hX : Yok X S K A cc RJ0 nL rm) (hE : YE X A E) (hT : ∀ s, E A s → StrAt x A s s.heap) (d : decode cc pc = .ok (.getfield 9, 3)) (kk : Y X S K A kc kn bl (pc + 3) lv (.ref x.2.1 :: st)) : Y X S K A kc kn bl pc lv (.ref x.1 :: st) := by
  obtain ⟨p, l, e, R, s, m, args, below, meth, c, Q⟩ := X
  obtain ⟨h1, h2, h3, rfl, h5, h6, h7, h8, h9⟩ := hX
  exact fun H locs ls hP hD hS hl => vk_getf h1 h2 (hT s hE.2.1).2.2.1 hS h5 (h6 _ fk_J0_9) (fun _ h9 => h9) d (kk H locs ls hP hD hS hl)
theorem Y_scod {x : Sk} (hX : Yok X S K A cc RJ0 nL rm) (hE : YE X A E) (hT : ∀ s, E A s → StrAt x A s s.heap) (d : decode cc pc = .ok (.getfield 15, 3)) (kk : Y X S K A kc kn bl (pc + 3) lv (.int 0 :: st)) : Y X S K A kc kn bl pc lv (.ref x.1 :: st) := by
  obtain ⟨p, l, e, R, s, m, args, below, meth, c, Q⟩ := X
  obtain ⟨h1, h2, h3, rfl, h5, h6, h7, h8, h9⟩ := hX
  exact fun H locs ls hP hD hS hl => vk_getf h1 h2 (hT s hE.2.1).2.1 hS h5 (h6 _ fk_J0_15) (fun _ h9 => h9) d (kk H locs ls hP hD hS hl)
theorem Y_slen {x : Sk} (hX : Yok X S K A cc own nL rm) (hE : YE X A E) (hT : ∀ s, E A s → StrAt x A s s.heap) (d : decode cc pc = .ok (.arraylength, 1)) (kk : Y X S K A kc kn bl (pc + 1) lv (.int (nI x.2.2.length) :: st)) : Y X S K A kc kn bl pc lv (.ref x.2.1 :: st) := Y_tlen hX hE (fun s h => (hT s h).2.2.2) rfl d kk
theorem Y_max {x y : Int32} {index : Nat} (hX : Yok X S K A cc own nL rm) (hk : Mth own index Lib.Math.max.name Lib.Math.max.code) (hR : (1 ≤ rm.frames ∧ (st.map fun v => v.category).sum + 13 ≤ rm.locals) ∧ kc ≤ rm.cells ∧ kn ≤ rm.slots) (d : decode cc pc = .ok (.invokestatic index, 3)) (kk : Y X S K A kc kn bl (pc + 3) lv (.int (maxI x y) :: st)) : Y X S K A kc kn bl pc lv (.int y :: .int x :: st) := by
  obtain ⟨p, l, e, R, s, m, args, below, meth, c, Q⟩ := X
  obtain ⟨h1, h2, h3, rfl, h5, h6, h7⟩ := hX
  obtain ⟨k1, k2, k3, k4⟩ := hk
  exact fun H locs ls hP hD hS hl => va_mmax h1 h2 hl.1.symm h5 (h6 _ k1) (h6 _ k2) (h6 _ k3) (h6 _ k4) hR.1.1 hR.1.2 hR.2.1 hR.2.2 d (kk H locs ls hP hD hS hl)
theorem Y_min {x y : Int32} {index : Nat} (hX : Yok X S K A cc own nL rm) (hk : Mth own index Lib.Math.min.name Lib.Math.min.code) (hR : (1 ≤ rm.frames ∧ (st.map fun v => v.category).sum + 13 ≤ rm.locals) ∧ kc ≤ rm.cells ∧ kn ≤ rm.slots) (d : decode cc pc = .ok (.invokestatic index, 3)) (kk : Y X S K A kc kn bl (pc + 3) lv (.int (minI x y) :: st)) : Y X S K A kc kn bl pc lv (.int y :: .int x :: st) := by
  obtain ⟨p, l, e, R, s, m, args, below, meth, c, Q⟩ := X
  obtain ⟨h1, h2, h3, rfl, h5, h6, h7⟩ := hX
  obtain ⟨k1, k2, k3, k4⟩ := hk
  exact fun H locs ls hP hD hS hl => va_mmin h1 h2 hl.1.symm h5 (h6 _ k1) (h6 _ k2) (h6 _ k3) (h6 _ k4) hR.1.1 hR.1.2 hR.2.1 hR.2.2 d (kk H locs ls hP hD hS hl)
theorem Y_objInit {index a : Nat} (hX : Yok X S K A cc own nL rm) (hw : OBk own index) (hR : 1 ≤ rm.frames ∧ (st.map fun v => v.category).sum + 12 ≤ rm.locals) (d : decode cc pc = .ok (.invokespecial index, 3)) (kk : Y X S K A kc kn bl (pc + 3) lv st) : Y X S K A kc kn bl pc lv (.ref a :: st) := by
  obtain ⟨p, l, e, R, s, m, args, below, meth, c, Q⟩ := X
  obtain ⟨h1, h2, h3, rfl, h5, h6, h7, h8, h9⟩ := hX
  obtain ⟨w1, w2, w3⟩ := hw
  intro H locs ls hP hD hS hl
  refine W.objInit h1 h2 h5 (h6 _ w1) (h6 _ w2) (h6 _ w3) rfl hl.1 rfl d hR.1 (by
    show 2 * 0 + _ + 12 ≤ _
    rw [Nat.mul_zero, Nat.zero_add]; exact hR.2) ?_
  exact kk H locs ls hP hD hS hl
theorem Y_putF {a ci k index : Nat} {fs : List Value} {ty : FieldType} {v : Value} {ws : va_W} {y : MethodName} (b i : Nat) (hX : Yok X S K A cc own nL rm) (hI : YIn X y) (hy : y.name = "<init>") (hf : FLf own index ci k ty) (hb : bl[b]? = some ws) (he : ws[i]? = some (a, .inr (ci, fs))) (hn : narrow ty v = v ∧ fits ty v = true ∧ k < fs.length) (d : decode cc pc = .ok (.putfield index, 3)) (kk : Y X S K A kc kn (bl.set b (ws.set i (a, .inr (ci, fs.set k v)))) (pc + 3) lv st) : Y X S K A kc kn bl pc lv (v :: .ref a :: st) := by
  obtain ⟨p, l, e, R, s, m, args, below, meth, c, Q⟩ := X
  obtain ⟨h1, h2, h3, rfl, h5, h6, h7, h8, h9⟩ := hX
  obtain ⟨C, T, N, ty0, f1, f2, f3, f4, f5, f6, f7, f8, f9⟩ := hf
  obtain ⟨q0, g1, g2⟩ := fl_at hb he
  have hI2 : meth.name = "<init>" := hI.trans hy
  refine fun H locs ls hP hD hS hl => va_putF (Ts := wall) h1 h2 h6 f4 ty0 f5 f6 h5 h7 hP hD hS q0 g1 f1 k f2 (h6 _ f3) (fun _ h9 => h9) f7 hI2 f8 f9 hn.1 hn.2.1 hn.2.2 d (fun H1 locs1 hP1 hD1 hS1 => ?_)
  rw [g2] at hP1 hD1
  exact kk H1 locs1 ls hP1 hD1 hS1 hl
theorem Y_aload_nN {k : Fin 4} (hX : Yok X S K A cc own nL rm) (d : decode cc pc = .ok (.aload_n k, 1)) (j : Nat) (hj : lv[j]? = some ((k : Nat), .null)) (kk : Y X S K A kc kn bl (pc + 1) lv (.null :: st)) : Y X S K A kc kn bl pc lv st := by
  obtain ⟨p, l, e, R, s, m, args, below, meth, c, Q⟩ := X
  exact fun H locs ls hP hD hS hv => lv_aload_nN hX.1 hX.2.1 d rfl (lv_at hv j hj) (kk H locs ls hP hD hS hv)
theorem Y_ifnonnull {a : Nat} {off : Int} {tgt : Nat} (hX : Yok X S K A cc own nL rm) (d : decode cc pc = .ok (.ifnonnull off, 3)) (ht : (pc : Int) + off = (tgt : Int)) (kk : Y X S K A kc kn bl tgt lv st) : Y X S K A kc kn bl pc lv (.ref a :: st) := by
  obtain ⟨p, l, e, R, s, m, args, below, meth, c, Q⟩ := X
  exact fun H locs ls hP hD hS hv => lv_ifnonnull hX.1 hX.2.1 d ht (kk H locs ls hP hD hS hv)
theorem Y_ifnonnullN {off : Int} (hX : Yok X S K A cc own nL rm) (d : decode cc pc = .ok (.ifnonnull off, 3)) (kk : Y X S K A kc kn bl (pc + 3) lv st) : Y X S K A kc kn bl pc lv (.null :: st) := by
  obtain ⟨p, l, e, R, s, m, args, below, meth, c, Q⟩ := X
  exact fun H locs ls hP hD hS hv => lv_ifnonnullN hX.1 hX.2.1 d (kk H locs ls hP hD hS hv)
theorem Y_eqi {x x' : Int32} (h : x = x') (kk : Y X S K A kc kn bl pc lv (.int x' :: st)) : Y X S K A kc kn bl pc lv (.int x :: st) := h ▸ kk
theorem Y_eql {x x' : Int64} (h : x = x') (kk : Y X S K A kc kn bl pc lv (.long x' :: st)) : Y X S K A kc kn bl pc lv (.long x :: st) := h ▸ kk
theorem Y_lv (h : lv = lv') (kk : Y X S K A kc kn bl pc lv' st) : Y X S K A kc kn bl pc lv st := h ▸ kk
def ACk (own : String) (index : Nat) : Prop := Cond.methodLink own index arraycopyName ∈ wall ∧ Cond.native arraycopyName ∈ wall ∧ Cond.static arraycopyName ∈ wall ∧ Cond.initialized "java/lang/System" ∈ wall
/-- bytes copied: out of a text that lies elsewhere; from one array of ours into another -/
theorem Y_copyT {index a n1 : Nat} {x : Sk} {g : Nat → Int32} {sp dp n : Int32} {ws : va_W} (b i : Nat) (hX : Yok X S K A cc own nL rm) (hE : YE X A E) (hT : ∀ s, E A s → StrAt x A s s.heap) (hk : ACk own index) (hb : bl[b]? = some ws) (he : ws[i]? = some (a, .inl (K.1 0, n1, .inl g))) (hg : ¬ sp < 0 ∧ ¬ dp < 0 ∧ ¬ n < 0 ∧ sp.toNatClampNeg + n.toNatClampNeg ≤ x.2.2.length ∧ dp.toNatClampNeg + n.toNatClampNeg ≤ n1) (hfit : ∀ i : Nat, fits .byte (.int (x.2.2.getD i 0)) = true) (hR : 1 ≤ rm.frames ∧ (st.map fun v => v.category).sum + (nativeFrameWords "java/lang/System" "arraycopy" 5 + 11) ≤ rm.locals) (d : decode cc pc = .ok (.invokestatic index, 3)) (kk : Y X S K A kc kn (bl.set b (ws.set i (a, .inl (K.1 0, n1, .inl (va_cpy (fun j => x.2.2.getD j 0) g sp.toNatClampNeg dp.toNatClampNeg n.toNatClampNeg))))) (pc + 3) lv st) : Y X S K A kc kn bl pc lv (.int n :: .int dp :: .ref a :: .int sp :: .ref x.2.1 :: st) := by
  obtain ⟨p, l, e, R, s, m, args, below, meth, c, Q⟩ := X
  obtain ⟨h1, h2, h3, rfl, h5, h6, h7, h8, h9⟩ := hX
  obtain ⟨q0, g1, g2⟩ := fl_at hb he
  obtain ⟨k1, k2, k3, k4⟩ := hk
  obtain ⟨y1, y2, y3, y4, y5⟩ := hg
  refine fun H locs ls hP hD hS hl => vk_copyt h1 h2 hl.1.symm h5 (h6 _ k1) (h6 _ k2) (h6 _ k3) (h6 _ k4) h7 hP hD hS (hT s hE.2.1).2.2.2 q0 4 g1 rfl y1 y2 y3 y4 y5 (fun i _ => hfit _) hR.1 hR.2 d (fun H1 locs1 hP1 hD1 hS1 => ?_)
  rw [g2] at hP1 hD1
  exact kk H1 locs1 ls hP1 hD1 hS1 hl
theorem Y_copyB {index a a0 n0 n1 : Nat} {f g : Nat → Int32} {sp dp n : Int32} {ws ws0 : va_W} (b0 i0 b i : Nat) (hX : Yok X S K A cc own nL rm) (hk : ACk own index) (hb0 : bl[b0]? = some ws0) (he0 : ws0[i0]? = some (a0, .inl (K.1 0, n0, .inl f))) (hb : bl[b]? = some ws) (he : ws[i]? = some (a, .inl (K.1 0, n1, .inl g))) (hg : ¬ sp < 0 ∧ ¬ dp < 0 ∧ ¬ n < 0 ∧ sp.toNatClampNeg + n.toNatClampNeg ≤ n0 ∧ dp.toNatClampNeg + n.toNatClampNeg ≤ n1) (hfit : ∀ i : Nat, fits .byte (.int (f i)) = true) (hR : 1 ≤ rm.frames ∧ (st.map fun v => v.category).sum + (nativeFrameWords "java/lang/System" "arraycopy" 5 + 11) ≤ rm.locals) (d : decode cc pc = .ok (.invokestatic index, 3)) (kk : Y X S K A kc kn (bl.set b (ws.set i (a, .inl (K.1 0, n1, .inl (va_cpy f g sp.toNatClampNeg dp.toNatClampNeg n.toNatClampNeg))))) (pc + 3) lv st) : Y X S K A kc kn bl pc lv (.int n :: .int dp :: .ref a :: .int sp :: .ref a0 :: st) := by
  obtain ⟨p, l, e, R, s, m, args, below, meth, c, Q⟩ := X
  obtain ⟨h1, h2, h3, rfl, h5, h6, h7, h8, h9⟩ := hX
  obtain ⟨q0, g1, g2⟩ := fl_at hb he
  obtain ⟨q1, g3, -⟩ := fl_at hb0 he0
  obtain ⟨k1, k2, k3, k4⟩ := hk
  obtain ⟨y1, y2, y3, y4, y5⟩ := hg
  refine fun H locs ls hP hD hS hl => va_copyi h1 h2 hl.1.symm h5 (h6 _ k1) (h6 _ k2) (h6 _ k3) (h6 _ k4) h7 hP hD hS q1 q0 4 4 g3 g1 rfl rfl rfl y1 y2 y3 y4 y5 (fun i _ => hfit _) hR.1 hR.2 d (fun H1 locs1 hP1 hD1 hS1 => ?_)
  rw [g2] at hP1 hD1
  exact kk H1 locs1 ls hP1 hD1 hS1 hl
end YR2
/-- a text of ours, seen from a callee that does not touch it -/
theorem str_at {S : Sx} {K : Kx} {A B : Nat → Prop} {ws : va_W} {U : State} {s v : Nat} {t : List Int32} {f : Nat → Int32} {x2 x3 : Value} (hP : va_P S.1 vwCl ws U.heap) (hK : va_K S.1 vwCl (tyY S K) U) (hw : ∀ w ∈ wall, w.before #[] U = true) (h1 : (s, Sum.inr (0, [.ref v, .int 0, x2, x3])) ∈ ws) (h2 : (v, Sum.inl (K.1 0, t.length, .inl f)) ∈ ws) (hf : ∀ j, j < t.length → f j = t.getD j 0) (hB : ¬ B s ∧ ¬ B v) : StrAt (s, v, t) B U U.heap := by
  have a1 := vaP_iff.mp hP _ h1
  have a2 := vaP_iff.mp hP _ h2
  obtain ⟨r, r1, cell, q1, q2, q3, q4⟩ := a1
  have hr : r = (RJ0, TJ0, 4) := Option.some.inj (r1.symm.trans rfl)
  subst hr
  obtain ⟨hS, hfc, kC, hkC, hkind⟩ := hK.1 0 _ rfl
  have fld : ∀ k, k < 4 → ∀ x, [Value.ref v, .int 0, x2, x3][k]? = some x → va_OF (TJ0 k).1 (TJ0 k).2.1 (TJ0 k).2.2.1 x s B U U.heap := fun k hk x hx => by
    obtain ⟨cf, kf, fi, fd, hi, hsl⟩ := hS k hk
    refine ⟨cf, kf, fi, fd, cell, hi, (u_facts hfc hkC (u_lays hw wx_J0 hk) hi).1, q1, (by rw [q3]; exact fun h => nomatch h), ?_, hB.1⟩
    rw [hsl, q4 k hk]
    simp [vp_V, hx]
  have hAr := (hK.2 4 _ rfl).1 t.length (fun j => .int (f j))
  refine ⟨⟨cell, q1, by rw [q3]; rfl, by rw [q2]; exact hfc, hB.1⟩, fld 1 (by decide) _ rfl, fld 0 (by decide) _ rfl, _, a2, hAr, (fun h => nomatch h), ?_, ?_, fun j hj => ?_, hB.2⟩
  · show _ ≤ (arrV _ _ _).slots.size
    rw [arrV_size]; exact Nat.le_refl _
  · show (arrV _ _ _).slots.size.toInt32 = _
    rw [arrV_size]
  · show (arrV _ _ _).slots[j]? = _
    rw [arrV_read _ _ hj, hf j hj]
-- contracts
def PY (S : Sx) (K : Kx) (E : Ex) (bl : Bk) (vs : List Value) (sz : Nat) : Array Value → State → Prop := va_Pc vs (fun U => U.heap.size = sz ∧ va_P S.1 vwCl bl.flatten U.heap ∧ va_D (va_A bl.flatten sz) bl.flatten ∧ va_K S.1 vwCl (tyY S K) U ∧ NY U ∧ E (va_A bl.flatten sz) U)
theorem PY.blind {S : Sx} {K : Kx} {E : Ex} {bl : Bk} {vs : List Value} {sz : Nat} (hE : Stb E) : FrameBlind (PY S K E bl vs sz) := fun a U g mk q => by
  obtain ⟨q0, q1, qP, qD, qK, qO, qE⟩ := q
  exact ⟨q0, q1, qP, qD, va_K.moved (u := U) (U := U.calling g mk a) (Vm.Alike.refl U.vm) qK, qO.same rfl, hE.2 _ U g mk a qE⟩
abbrev BY (S : Sx) (bl : Bk) (sz : Nat) (blk : (Nat → Nat) → Bk) : (Nat → Nat) → State → Prop := fun u t => va_P S.1 vwCl (blk u).flatten t.heap ∧ va_D (va_A bl.flatten sz) (blk u).flatten
def QYi (S : Sx) (bl : Bk) (v : Int32) (blk : (Nat → Nat) → Bk) (sz : Nat) : Array Value → State → Outcome → State → Prop := va_Qi (S := Nat → Nat) (fun r _ => r = v) (BY S bl sz blk) (va_A bl.flatten sz)
def QYl (S : Sx) (bl : Bk) (v : Int64) (blk : (Nat → Nat) → Bk) (sz : Nat) : Array Value → State → Outcome → State → Prop := va_Ql (S := Nat → Nat) (fun r _ => r = v) (BY S bl sz blk) (va_A bl.flatten sz)
def QYv (S : Sx) (bl : Bk) (blk : (Nat → Nat) → Bk) (sz : Nat) : Array Value → State → Outcome → State → Prop := va_Qv (S := Nat → Nat) (fun _ => True) (BY S bl sz blk) (va_A bl.flatten sz)
def QYq (S : Sx) (bl : Bk) (ro : (Nat → Nat) → Option Nat) (blk : (Nat → Nat) → Bk) (sz : Nat) : Array Value → State → Outcome → State → Prop := va_Qq (S := Nat → Nat) (fun r u => r = ro u) (BY S bl sz blk) (va_A bl.flatten sz)
/-- method y does so -/
def CY (S : Sx) (K : Kx) (E : Ex) (y : MethodName) (cc : ByteArray) (n : Nat) (ret : Option FieldType) (rm : Room) (vs : List Value) (bl : Bk) (Qc : Nat → Array Value → State → Outcome → State → Prop) (mc ms : Nat) : Prop := ∀ (l : Launch) (sz : Nat), l.stackTraces = false → Met l y (wsg y cc n ret) rm (PY S K E bl vs sz) (Qc sz) mc ms (va_A bl.flatten sz)
/-- a call, up to its return -/
def YRun (X : Cx) (S : Sx) (A : Nat → Prop) (kc kn : Nat) (bl : Bk) (pc : Nat) (lv : List (Nat × Value)) (st rest : List Value) (mc ms : Nat) (sub : Bk) (Qc : Nat → Array Value → State → Outcome → State → Prop) : Prop := match X with
  | (p, l, e, R, s, m, args, below, meth, c, _) => ∀ (H : Heap) (locs : List Loc) (ls : Array Slot), va_P S.1 vwCl bl.flatten H → va_D A bl.flatten → va_S A s.heap H locs → lv_has ls c.maxLocals lv → ∃ a, va_Run p l e R s m args below meth c H locs kc kn mc ms (F0 m pc ls st) rest (Qc H.size a) (va_A sub.flatten H.size)
/-- the callee's own facts, out of the caller's -/
def Ecall (S : Sx) (K : Kx) (A : Nat → Prop) (E E' : Ex) (bl sub : Bk) : Prop := ∀ U : State, va_P S.1 vwCl bl.flatten U.heap → va_D A bl.flatten → va_K S.1 vwCl (tyY S K) U → (∀ w ∈ wall, w.before #[] U = true) → E (va_A sub.flatten U.heap.size) U → E' (va_A sub.flatten U.heap.size) U
section YC
variable {X : Cx} {S : Sx} {K : Kx} {A : Nat → Prop} {E E' : Ex} {kc kn : Nat} {bl sub rst : Bk} {cc : ByteArray} {own : String} {nL : Nat} {rm : Room} {pc : Nat} {lv lv' : List (Nat × Value)} {st rest As : List Value} {mc ms : Nat} {Qc : Nat → Array Value → State → Outcome → State → Prop}
theorem Ecall.same : Ecall S K A E E bl sub := fun _ _ _ _ _ h => h
theorem ye_pre {p : Program} {l : Launch} {e : Env} {R : Room} {s : State} {m : MethodId} {args : Array Value} {below : List Frame} {meth : Method} {c : Code} {Q : State → Prop} {H : Heap} {locs : List Loc} {vs : List Value} (hX : Yok (p, l, e, R, s, m, args, below, meth, c, Q) S K A cc own nL rm) (hE : YE (p, l, e, R, s, m, args, below, meth, c, Q) A E) (hEE : Ecall S K A E E' bl sub) (hbl : bl = sub ++ rst) (hP : va_P S.1 vwCl bl.flatten H) (hD : va_D A bl.flatten) (hS : va_S A s.heap H locs) (U : State) (hU : U.heap = H) (hW : s.WarmedH U.vm) : PY S K E' sub vs H.size vs.toArray U := by
  subst hbl
  subst hU
  obtain ⟨h1, h2, h3, rfl, h5, h6, h7, h8, h9⟩ := hX
  have hK := va_K.moved hW.alike h7
  have hP0 := hP
  have hD0 := hD
  rw [List.flatten_append] at hP hD
  refine ⟨rfl, rfl, vaP_iff.mpr fun x hx => vaP_iff.mp hP x (List.mem_append_left _ hx), vaD_self hD, hK, h9.mv hW, hEE U hP0 hD0 hK (fun w hw => word_at hW (good_of_word (wall_good hw)) (h6 w hw)) (hE.1.1 A _ s U hE.2.1 hW (fun q a b => hS.2.1 q a b) (vaA_in hD hS h8))⟩
theorem Y_runV {index maxL n a ci b i : Nat} {C : String} {T : u_T} {N : Nat} {fs : List Value} {ws : va_W} {y : MethodName} {bytes : ByteArray} {ret : Option FieldType} {rmc : Room} (hX : Yok X S K A cc own nL rm) (hE : YE X A E) (hk : MVk own index C y bytes maxL ret) (hy : MNk y C n) (hE' : Stb E') (hM : CY S K E' y bytes maxL ret rmc (.ref a :: As) sub Qc mc ms) (hbl : bl = sub ++ rst) (hEE : Ecall S K A E E' bl sub) (hb : bl[b]? = some ws) (he : ws[i]? = some (a, .inr (ci, fs))) (hc : vwCl[ci]? = some (C, T, N)) (hrc : rmc.cells = mc ∧ rmc.slots = ms) (hR : rmc.frames + 1 ≤ rm.frames ∧ 8 + (maxL + 11) + rmc.locals ≤ rm.locals) (hn : As.length = n) (hst : st = As.reverse ++ .ref a :: rest) (hW : (rest.map fun v => v.category).sum ≤ 8) (d : decode cc pc = .ok (.invokevirtual index, 3)) (hf : kc + mc ≤ rm.cells ∧ kn + ms ≤ rm.slots) : YRun X S A kc kn bl pc lv st rest mc ms sub Qc := by
  subst hst
  obtain ⟨p, l, e, R, s, m, args, below, meth, c, Q⟩ := X
  intro H locs ls hP hD hS hl
  have pre := fun U hU hW => ye_pre (vs := .ref a :: As) hX hE hEE hbl hP hD hS U hU hW
  obtain ⟨h1, h2, h3, rfl, h5, h6, h7, h8, h9⟩ := hX
  obtain ⟨r3, r4⟩ := hR
  obtain ⟨y1, y2, y3, y4⟩ := hy
  obtain ⟨q0, g1, -⟩ := fl_at hb he
  exact ⟨_, va_runV (As := As) (rest := rest) ⟨h1, h2, h3, h5, h6⟩ (hM l H.size hE.2.2) (cwV n h6 (wsV_in hk) rfl hrc.1 hrc.2 ⟨y1, y2, y3, y4⟩ ⟨r3, r4⟩) ⟨PY.blind hE', va_recv h7 hP hc g1, pre⟩ rfl hn (hl.1.trans h3) rfl (lv_room hW) d hf⟩
theorem Y_runS {index maxL n : Nat} {y : MethodName} {bytes : ByteArray} {ret : Option FieldType} {rmc : Room} (hX : Yok X S K A cc own nL rm) (hE : YE X A E) (hk : MSk own index y bytes maxL ret) (hy : MNk y y.cls n) (hE' : Stb E') (hM : CY S K E' y bytes maxL ret rmc As sub Qc mc ms) (hbl : bl = sub ++ rst) (hEE : Ecall S K A E E' bl sub) (hrc : rmc.cells = mc ∧ rmc.slots = ms) (hR : rmc.frames + 1 ≤ rm.frames ∧ 8 + (maxL + 11) + rmc.locals ≤ rm.locals) (hn : As.length = n) (hst : st = As.reverse ++ rest) (hW : (rest.map fun v => v.category).sum ≤ 8) (d : decode cc pc = .ok (.invokestatic index, 3)) (hf : kc + mc ≤ rm.cells ∧ kn + ms ≤ rm.slots) : YRun X S A kc kn bl pc lv st rest mc ms sub Qc := by
  subst hst
  obtain ⟨p, l, e, R, s, m, args, below, meth, c, Q⟩ := X
  intro H locs ls hP hD hS hl
  have pre := fun U hU hW => ye_pre (vs := As) hX hE hEE hbl hP hD hS U hU hW
  obtain ⟨h1, h2, h3, rfl, h5, h6, h7, h8, h9⟩ := hX
  obtain ⟨r3, r4⟩ := hR
  obtain ⟨y1, y2, y3, y4⟩ := hy
  exact ⟨_, va_runS (As := As) (rest := rest) ⟨h1, h2, h3, h5, h6⟩ (hM l H.size hE.2.2) (va_cwS n h6 (wsS_in hk) rfl hrc.1 hrc.2 ⟨y2, y3, y4⟩ ⟨r3, r4⟩) ⟨PY.blind hE', pre⟩ rfl hn (hl.1.trans h3) rfl (lv_room hW) d hf⟩
theorem Y_runI {index maxL n a : Nat} {y : MethodName} {bytes : ByteArray} {rmc : Room} (hX : Yok X S K A cc own nL rm) (hE : YE X A E) (hk : MIk own index y bytes maxL none) (hy : y.name = "<init>" ∧ y.cls ≠ "java/lang/invoke/MethodHandle" ∧ y.cls ≠ "java/lang/invoke/VarHandle" ∧ (parseMethodDescriptor y.desc).map (fun d => d.parameters.length) = some n) (hE' : Stb E') (hM : CY S K E' y bytes maxL none rmc (.ref a :: As) sub Qc mc ms) (hbl : bl = sub ++ rst) (hEE : Ecall S K A E E' bl sub) (hrc : rmc.cells = mc ∧ rmc.slots = ms) (hR : rmc.frames + 1 ≤ rm.frames ∧ 8 + (maxL + 11) + rmc.locals ≤ rm.locals) (hn : As.length = n) (hst : st = As.reverse ++ .ref a :: rest) (hW : (rest.map fun v => v.category).sum ≤ 8) (d : decode cc pc = .ok (.invokespecial index, 3)) (hf : kc + mc ≤ rm.cells ∧ kn + ms ≤ rm.slots) : YRun X S A kc kn bl pc lv st rest mc ms sub Qc := by
  subst hst
  obtain ⟨p, l, e, R, s, m, args, below, meth, c, Q⟩ := X
  intro H locs ls hP hD hS hl
  have pre := fun U hU hW => ye_pre (vs := .ref a :: As) hX hE hEE hbl hP hD hS U hU hW
  obtain ⟨h1, h2, h3, rfl, h5, h6, h7, h8, h9⟩ := hX
  obtain ⟨k1, k2, k3, k4⟩ := hk
  obtain ⟨y1, y2⟩ := hy
  exact ⟨_, va_runI (As := As) (rest := rest) ⟨h1, h2, h3, h5, h6⟩ (hM l H.size hE.2.2) (cwI n h6 (wall_to k4) rfl hrc.1 hrc.2 (h6 _ k3) (h6 _ k1) (h6 _ k2) y1 y2 hR) ⟨PY.blind hE', pre⟩ rfl hn (hl.1.trans h3) rfl (lv_room hW) d hf⟩
theorem Y_runIN {index maxL n a : Nat} {y : MethodName} {bytes : ByteArray} {rmc : Room} (hX : Yok X S K A cc own nL rm) (hE : YE X A E) (hk : (own, index, y) ∈ nyl ∧ Cond.instanceMethod y ∈ wall ∧ Cond.initialized y.cls ∈ wall ∧ Cond.code y bytes maxL none ∈ wall) (hy : y.name = "<init>" ∧ y.cls ≠ "java/lang/invoke/MethodHandle" ∧ y.cls ≠ "java/lang/invoke/VarHandle" ∧ (parseMethodDescriptor y.desc).map (fun d => d.parameters.length) = some n) (hE' : Stb E') (hM : CY S K E' y bytes maxL none rmc (.ref a :: As) sub Qc mc ms) (hbl : bl = sub ++ rst) (hEE : Ecall S K A E E' bl sub) (hrc : rmc.cells = mc ∧ rmc.slots = ms) (hR : rmc.frames + 1 ≤ rm.frames ∧ 8 + (maxL + 11) + rmc.locals ≤ rm.locals) (hn : As.length = n) (hst : st = As.reverse ++ .ref a :: rest) (hW : (rest.map fun v => v.category).sum ≤ 8) (d : decode cc pc = .ok (.invokespecial index, 3)) (hf : kc + mc ≤ rm.cells ∧ kn + ms ≤ rm.slots) : YRun X S A kc kn bl pc lv st rest mc ms sub Qc := by
  subst hst
  obtain ⟨p, l, e, R, s, m, args, below, meth, c, Q⟩ := X
  intro H locs ls hP hD hS hl
  have pre := fun U hU hW => ye_pre (vs := .ref a :: As) hX hE hEE hbl hP hD hS U hU hW
  obtain ⟨h1, h2, h3, rfl, h5, h6, h7, h8, h9⟩ := hX
  obtain ⟨k1, k2, k3, k4⟩ := hk
  obtain ⟨y1, y2⟩ := hy
  exact ⟨_, va_runIN (host := "MustNotStopLaw") (As := As) (rest := rest) ⟨h1, h2, h3, h5, h6⟩ (hM l H.size hE.2.2) ⟨va_cnB n h6 (wall_to k4) rfl hrc.1 hrc.2 (h9.2.2.2.1 _ k1) (h6 _ k3) y2 hR, y1, h6 _ k2⟩ ⟨PY.blind hE', pre⟩ rfl hn (hl.1.trans h3) rfl (lv_room hW) d hf⟩
/-- a call on a text -/
theorem Y_runT {x : Sk} {index maxL n : Nat} {y : MethodName} {bytes : ByteArray} {ret : Option FieldType} {rmc : Room} (hX : Yok X S K A cc own nL rm) (hE : YE X A E) (hT : ∀ s, E A s → StrAt x A s s.heap) (hk : MVk own index RJ0 y bytes maxL ret) (hy : MNk y RJ0 n) (hE' : Stb E') (hM : CY S K E' y bytes maxL ret rmc (.ref x.1 :: As) sub Qc mc ms) (hbl : bl = sub ++ rst) (hEE : Ecall S K A E E' bl sub) (hrc : rmc.cells = mc ∧ rmc.slots = ms) (hR : rmc.frames + 1 ≤ rm.frames ∧ 8 + (maxL + 11) + rmc.locals ≤ rm.locals) (hn : As.length = n) (hst : st = As.reverse ++ .ref x.1 :: rest) (hW : (rest.map fun v => v.category).sum ≤ 8) (d : decode cc pc = .ok (.invokevirtual index, 3)) (hf : kc + mc ≤ rm.cells ∧ kn + ms ≤ rm.slots) : YRun X S A kc kn bl pc lv st rest mc ms sub Qc := by
  subst hst
  obtain ⟨p, l, e, R, s, m, args, below, meth, c, Q⟩ := X
  intro H locs ls hP hD hS hl
  have pre := fun U hU hW => ye_pre (vs := .ref x.1 :: As) hX hE hEE hbl hP hD hS U hU hW
  obtain ⟨h1, h2, h3, rfl, h5, h6, h7, h8, h9⟩ := hX
  obtain ⟨r3, r4⟩ := hR
  obtain ⟨y1, y2, y3, y4⟩ := hy
  obtain ⟨cell, c1, c2, c3, c4⟩ := (hT s hE.2.1).1
  have hc : H[x.1]? = some cell := by rw [hS.2.1 x.1 (Array.getElem?_eq_some_iff.mp c1).1 c4]; exact c1
  exact ⟨_, va_runV (As := As) (rest := rest) ⟨h1, h2, h3, h5, h6⟩ (hM l H.size hE.2.2) (cwV n h6 (wsV_in hk) rfl hrc.1 hrc.2 ⟨y1, y2, y3, y4⟩ ⟨r3, r4⟩) ⟨PY.blind hE', ⟨cell, hc, c2, c3⟩, pre⟩ rfl hn (hl.1.trans h3) rfl (lv_room hW) d hf⟩
theorem Y_resi {v : Int32} {blk : (Nat → Nat) → Bk} (hX : Yok X S K A cc own nL rm) (hbl : bl = sub ++ rst) (hr : YRun X S A kc kn bl pc lv st rest mc ms sub (QYi S sub v blk)) (kk : ∀ u, Y X S K A (kc + mc) (kn + ms) (blk u ++ rst) (pc + 3) lv (.int v :: rest)) : Y X S K A kc kn bl pc lv st := by
  obtain ⟨p, l, e, R, s, m, args, below, meth, c, Q⟩ := X
  intro H locs ls hP hD hS hl
  obtain ⟨a, hra⟩ := hr H locs ls hP hD hS hl
  subst hbl
  rw [List.flatten_append] at hP hD
  have hF := vaA_in hD hS hX.2.2.2.2.2.2.2.1
  refine va_calli hra hS (fun q _ h => hF q h) hF (fun r u t H1 locs1 ht hvm hp hB hz hk1 hS1 => ?_)
  subst hp
  obtain ⟨hP1, hD1⟩ := hB
  rw [ht] at hP1
  obtain ⟨hP2, hD2⟩ := va_mid2 hP hD hk1 hF hP1 hD1
  exact kk u H1 locs1 ls (by rw [List.flatten_append]; exact hP2) (by rw [List.flatten_append]; exact hD2) hS1 hl
theorem Y_resl {v : Int64} {blk : (Nat → Nat) → Bk} (hX : Yok X S K A cc own nL rm) (hbl : bl = sub ++ rst) (hr : YRun X S A kc kn bl pc lv st rest mc ms sub (QYl S sub v blk)) (kk : ∀ u, Y X S K A (kc + mc) (kn + ms) (blk u ++ rst) (pc + 3) lv (.long v :: rest)) : Y X S K A kc kn bl pc lv st := by
  obtain ⟨p, l, e, R, s, m, args, below, meth, c, Q⟩ := X
  intro H locs ls hP hD hS hl
  obtain ⟨a, hra⟩ := hr H locs ls hP hD hS hl
  subst hbl
  rw [List.flatten_append] at hP hD
  have hF := vaA_in hD hS hX.2.2.2.2.2.2.2.1
  refine va_calll hra hS (fun q _ h => hF q h) hF (fun r u t H1 locs1 ht hvm hp hB hz hk1 hS1 => ?_)
  subst hp
  obtain ⟨hP1, hD1⟩ := hB
  rw [ht] at hP1
  obtain ⟨hP2, hD2⟩ := va_mid2 hP hD hk1 hF hP1 hD1
  exact kk u H1 locs1 ls (by rw [List.flatten_append]; exact hP2) (by rw [List.flatten_append]; exact hD2) hS1 hl
theorem Y_resv {blk : (Nat → Nat) → Bk} (hX : Yok X S K A cc own nL rm) (hbl : bl = sub ++ rst) (hr : YRun X S A kc kn bl pc lv st rest mc ms sub (QYv S sub blk)) (kk : ∀ u, Y X S K A (kc + mc) (kn + ms) (blk u ++ rst) (pc + 3) lv rest) : Y X S K A kc kn bl pc lv st := by
  obtain ⟨p, l, e, R, s, m, args, below, meth, c, Q⟩ := X
  intro H locs ls hP hD hS hl
  obtain ⟨a, hra⟩ := hr H locs ls hP hD hS hl
  subst hbl
  rw [List.flatten_append] at hP hD
  have hF := vaA_in hD hS hX.2.2.2.2.2.2.2.1
  refine va_callv hra hS (fun q _ h => hF q h) hF (fun u t H1 locs1 ht hvm hp hB hz hk1 hS1 => ?_)
  obtain ⟨hP1, hD1⟩ := hB
  rw [ht] at hP1
  obtain ⟨hP2, hD2⟩ := va_mid2 hP hD hk1 hF hP1 hD1
  exact kk u H1 locs1 ls (by rw [List.flatten_append]; exact hP2) (by rw [List.flatten_append]; exact hD2) hS1 hl
theorem Y_resq {ro : (Nat → Nat) → Option Nat} {blk : (Nat → Nat) → Bk} (hX : Yok X S K A cc own nL rm) (hbl : bl = sub ++ rst) (hr : YRun X S A kc kn bl pc lv st rest mc ms sub (QYq S sub ro blk)) (kk : ∀ u, Y X S K A (kc + mc) (kn + ms) (blk u ++ rst) (pc + 3) lv (va_rf (ro u) :: rest)) : Y X S K A kc kn bl pc lv st := by
  obtain ⟨p, l, e, R, s, m, args, below, meth, c, Q⟩ := X
  intro H locs ls hP hD hS hl
  obtain ⟨a, hra⟩ := hr H locs ls hP hD hS hl
  subst hbl
  rw [List.flatten_append] at hP hD
  have hF := vaA_in hD hS hX.2.2.2.2.2.2.2.1
  refine va_callq hra hS (fun q _ h => hF q h) hF (fun r u t H1 locs1 ht hvm hp hB hz hk1 hS1 => ?_)
  subst hp
  obtain ⟨hP1, hD1⟩ := hB
  rw [ht] at hP1
  obtain ⟨hP2, hD2⟩ := va_mid2 hP hD hk1 hF hP1 hD1
  exact kk u H1 locs1 ls (by rw [List.flatten_append]; exact hP2) (by rw [List.flatten_append]; exact hD2) hS1 hl
end YC
-- what a method owes at its end
def YHi (X : Cx) (S : Sx) (K : Kx) (A : Nat → Prop) (cc : ByteArray) (ty : FieldType) (v : Int32) (blk : (Nat → Nat) → Bk) (mc ms : Nat) : Prop := ∀ (u : Nat → Nat) (pc : Nat) (lv : List (Nat × Value)), narrow ty (.int v) = .int v → decode cc pc = .ok (.ireturn, 1) → Y X S K A mc ms (blk u) pc lv [.int v]
def YHl (X : Cx) (S : Sx) (K : Kx) (A : Nat → Prop) (cc : ByteArray) (v : Int64) (blk : (Nat → Nat) → Bk) (mc ms : Nat) : Prop := ∀ (u : Nat → Nat) (pc : Nat) (lv : List (Nat × Value)), decode cc pc = .ok (.lreturn, 1) → Y X S K A mc ms (blk u) pc lv [.long v]
def YHv (X : Cx) (S : Sx) (K : Kx) (A : Nat → Prop) (cc : ByteArray) (blk : (Nat → Nat) → Bk) (mc ms : Nat) : Prop := ∀ (u : Nat → Nat) (pc : Nat) (lv : List (Nat × Value)), decode cc pc = .ok (.return_, 1) → Y X S K A mc ms (blk u) pc lv []
def YHq (X : Cx) (S : Sx) (K : Kx) (A : Nat → Prop) (cc : ByteArray) (ro : (Nat → Nat) → Option Nat) (blk : (Nat → Nat) → Bk) (mc ms : Nat) : Prop := ∀ (u : Nat → Nat) (pc : Nat) (lv : List (Nat × Value)), decode cc pc = .ok (.areturn, 1) → Y X S K A mc ms (blk u) pc lv [va_rf (ro u)]
/-- out of a walk, for a class of any name that has no row of the machine's own for this method -/
theorem y_ofW {l : Launch} {y : MethodName} {ws ws' : List Cond} {rm : Room} {Pc : Array Value → State → Prop} {Qc : Array Value → State → Outcome → State → Prop} {mc ms : Nat} {free : Addr → Prop} {cc : ByteArray} {maxL : Nat} {ret : Option FieldType} (hy : plainFor y = true) (hw : ws = Cond.code y cc maxL ret :: ws')
    (walk : ∀ p e s m args below meth c s₁, BodyLoose p l y (headSpec ws rm) cc maxL ret e s m args below meth c s₁ → c.maxLocals = maxL → Pc args s → W p l e (headSpec ws rm).room s m args below meth c s.heap [] 0 0 (MQ below Qc args s mc ms free) (entryFrame m args maxL)) : Met l y ws rm Pc Qc mc ms free := by
  refine MetFree.of_bodySF (code := cc) (maxLocals := maxL) (ret := ret) hy (fun args s m h hn => ?_) (fun p e s m args below meth c s₁ B hml hP _ => ?_)
  · obtain ⟨meth, c, h1, h2, h3, h4, h5, h6, -, -⟩ := Cond.code_spec hn (atoms_spec (ws := ws) h _ (by rw [hw]; exact List.mem_cons_self))
    exact ⟨meth, c, h1, h2, h3, h4, h5, h6⟩
  · have hh0 : s₁.heap = s.heap := by rw [B.state]; rfl
    obtain ⟨t, a1, o, b1, b2, b3⟩ := walk p e s m args below meth c s₁ B hml hP s₁ hh0 (Stand.of_body B)
    exact ⟨t, o, a1, b1, b2, ⟨b3.1, b3.2⟩⟩
section YM
variable {S : Sx} {K : Kx} {E : Ex} {bl : Bk} {cc : ByteArray} {own : String} {rm : Room} {y : MethodName} {maxL mc ms : Nat} {vs : List Value} {blk : (Nat → Nat) → Bk}
theorem y_meti {ty : FieldType} {v : Int32} (hy : plainFor y = true) (hown : y.cls = own) (hn : (lg_sl vs).length ≤ maxL) (hE : Stb E) (body : ∀ (X : Cx) (A : Nat → Prop), Yok X S K A cc own maxL rm → YE X A E → YIn X y → YHi X S K A cc ty v blk mc ms → Y X S K A 0 0 bl 0 (lv_args 0 vs) []) : CY S K E y cc maxL (some ty) rm vs bl (QYi S bl v blk) mc ms := by
  intro l sz hst9
  refine y_ofW (cc := cc) (maxL := maxL) (ret := (some ty)) hy rfl ?_
  intro p e s m args below meth c s₁ B hml hv
  obtain ⟨rfl, hsz, hP, hD, hK, hO, hEs⟩ := hv
  subst hsz
  have hx := B.exec
  have hb := B.bytes
  have hr := B.returns
  have hts := atoms_spec (ws := wsg y cc maxL (some ty)) B.pre
  have hf : s.vm.findClass own = some m.cls := by rw [← hown]; exact findClass_of_methodNamed B.named
  have hin : meth.name = y.name := (name_of_methodNamed B.named B.method).1
  have hlocks := B.notSynchronized
  have hl := lv_entry vs (n := maxL) hn
  rw [lg_entry_eq]
  generalize (lg_sl vs ++ List.replicate (maxL - (lg_sl vs).length) Slot.unset).toArray = ls at hl ⊢
  refine body (p, l, e, rm, s, m, _, below, meth, c, MQ below (QYi S bl v blk s.heap.size) vs.toArray s mc ms (va_A bl.flatten s.heap.size)) (va_A bl.flatten s.heap.size) ⟨hx, hb, hml, rfl, hf, fun w h => hts w (List.mem_cons_of_mem _ h), hK, fun q h => .inr h, hO⟩ ⟨hE, hEs, hst9⟩ hin ?_ s.heap [] ls hP hD va_S.rf (by rw [hml]; exact hl)
  intro u pc lv hnar d H locs ls2 hP2 hD2 hS2 hl2
  exact W.zret (ty := ty) hx hb hr hnar (fun t ht hW => ⟨⟨v, u, rfl, rfl, ⟨by rw [ht]; exact hP2, hD2⟩⟩, hS2.F ht⟩) hS2.2.2 d
theorem y_metl {v : Int64} (hy : plainFor y = true) (hown : y.cls = own) (hn : (lg_sl vs).length ≤ maxL) (hE : Stb E) (body : ∀ (X : Cx) (A : Nat → Prop), Yok X S K A cc own maxL rm → YE X A E → YIn X y → YHl X S K A cc v blk mc ms → Y X S K A 0 0 bl 0 (lv_args 0 vs) []) : CY S K E y cc maxL (some .long) rm vs bl (QYl S bl v blk) mc ms := by
  intro l sz hst9
  refine y_ofW (cc := cc) (maxL := maxL) (ret := (some .long)) hy rfl ?_
  intro p e s m args below meth c s₁ B hml hv
  obtain ⟨rfl, hsz, hP, hD, hK, hO, hEs⟩ := hv
  subst hsz
  have hx := B.exec
  have hb := B.bytes
  have hr := B.returns
  have hts := atoms_spec (ws := wsg y cc maxL (some .long)) B.pre
  have hf : s.vm.findClass own = some m.cls := by rw [← hown]; exact findClass_of_methodNamed B.named
  have hin : meth.name = y.name := (name_of_methodNamed B.named B.method).1
  have hlocks := B.notSynchronized
  have hl := lv_entry vs (n := maxL) hn
  rw [lg_entry_eq]
  generalize (lg_sl vs ++ List.replicate (maxL - (lg_sl vs).length) Slot.unset).toArray = ls at hl ⊢
  refine body (p, l, e, rm, s, m, _, below, meth, c, MQ below (QYl S bl v blk s.heap.size) vs.toArray s mc ms (va_A bl.flatten s.heap.size)) (va_A bl.flatten s.heap.size) ⟨hx, hb, hml, rfl, hf, fun w h => hts w (List.mem_cons_of_mem _ h), hK, fun q h => .inr h, hO⟩ ⟨hE, hEs, hst9⟩ hin ?_ s.heap [] ls hP hD va_S.rf (by rw [hml]; exact hl)
  intro u pc lv d H locs ls2 hP2 hD2 hS2 hl2
  exact W.lret hx hb hr (fun t ht hW => ⟨⟨v, u, rfl, rfl, ⟨by rw [ht]; exact hP2, hD2⟩⟩, hS2.F ht⟩) hS2.2.2 d
theorem y_metv (hy : plainFor y = true) (hown : y.cls = own) (hn : (lg_sl vs).length ≤ maxL) (hE : Stb E) (body : ∀ (X : Cx) (A : Nat → Prop), Yok X S K A cc own maxL rm → YE X A E → YIn X y → YHv X S K A cc blk mc ms → Y X S K A 0 0 bl 0 (lv_args 0 vs) []) : CY S K E y cc maxL none rm vs bl (QYv S bl blk) mc ms := by
  intro l sz hst9
  refine y_ofW (cc := cc) (maxL := maxL) (ret := none) hy rfl ?_
  intro p e s m args below meth c s₁ B hml hv
  obtain ⟨rfl, hsz, hP, hD, hK, hO, hEs⟩ := hv
  subst hsz
  have hx := B.exec
  have hb := B.bytes
  have hr := B.returns
  have hts := atoms_spec (ws := wsg y cc maxL none) B.pre
  have hf : s.vm.findClass own = some m.cls := by rw [← hown]; exact findClass_of_methodNamed B.named
  have hin : meth.name = y.name := (name_of_methodNamed B.named B.method).1
  have hlocks := B.notSynchronized
  have hl := lv_entry vs (n := maxL) hn
  rw [lg_entry_eq]
  generalize (lg_sl vs ++ List.replicate (maxL - (lg_sl vs).length) Slot.unset).toArray = ls at hl ⊢
  refine body (p, l, e, rm, s, m, _, below, meth, c, MQ below (QYv S bl blk s.heap.size) vs.toArray s mc ms (va_A bl.flatten s.heap.size)) (va_A bl.flatten s.heap.size) ⟨hx, hb, hml, rfl, hf, fun w h => hts w (List.mem_cons_of_mem _ h), hK, fun q h => .inr h, hO⟩ ⟨hE, hEs, hst9⟩ hin ?_ s.heap [] ls hP hD va_S.rf (by rw [hml]; exact hl)
  intro u pc lv d H locs ls2 hP2 hD2 hS2 hl2
  exact W.vret hx hb hr (fun t ht hW => ⟨⟨u, rfl, trivial, ⟨by rw [ht]; exact hP2, hD2⟩⟩, hS2.F ht⟩) hS2.2.2 d
theorem y_metq {ty : FieldType} {ro : (Nat → Nat) → Option Nat} (hrt : (∃ n, ty = .object n) ∨ ∃ t, ty = .array t) (hy : plainFor y = true) (hown : y.cls = own) (hn : (lg_sl vs).length ≤ maxL) (hE : Stb E) (body : ∀ (X : Cx) (A : Nat → Prop), Yok X S K A cc own maxL rm → YE X A E → YIn X y → YHq X S K A cc ro blk mc ms → Y X S K A 0 0 bl 0 (lv_args 0 vs) []) : CY S K E y cc maxL (some ty) rm vs bl (QYq S bl ro blk) mc ms := by
  intro l sz hst9
  refine y_ofW (cc := cc) (maxL := maxL) (ret := (some ty)) hy rfl ?_
  intro p e s m args below meth c s₁ B hml hv
  obtain ⟨rfl, hsz, hP, hD, hK, hO, hEs⟩ := hv
  subst hsz
  have hx := B.exec
  have hb := B.bytes
  have hr := B.returns
  have hts := atoms_spec (ws := wsg y cc maxL (some ty)) B.pre
  have hf : s.vm.findClass own = some m.cls := by rw [← hown]; exact findClass_of_methodNamed B.named
  have hin : meth.name = y.name := (name_of_methodNamed B.named B.method).1
  have hlocks := B.notSynchronized
  have hl := lv_entry vs (n := maxL) hn
  rw [lg_entry_eq]
  generalize (lg_sl vs ++ List.replicate (maxL - (lg_sl vs).length) Slot.unset).toArray = ls at hl ⊢
  refine body (p, l, e, rm, s, m, _, below, meth, c, MQ below (QYq S bl ro blk s.heap.size) vs.toArray s mc ms (va_A bl.flatten s.heap.size)) (va_A bl.flatten s.heap.size) ⟨hx, hb, hml, rfl, hf, fun w h => hts w (List.mem_cons_of_mem _ h), hK, fun q h => .inr h, hO⟩ ⟨hE, hEs, hst9⟩ hin ?_ s.heap [] ls hP hD va_S.rf (by rw [hml]; exact hl)
  intro u pc lv d H locs ls2 hP2 hD2 hS2 hl2
  exact W.aret (rt := ty) hx hb hr hrt (va_rf_or _) (fun t ht hW => ⟨⟨ro u, u, rfl, rfl, ⟨by rw [ht]; exact hP2, hD2⟩⟩, hS2.F ht⟩) hS2.2.2 d
end YM
