-- ===== worlds that grow: what constructors make =====
theorem vaP_iff {D : va_G} {cl : List vw_C} {ws : va_W} {H : Heap} : va_P D cl ws H ↔ ∀ q, q ∈ ws → va_at D cl q H := ⟨fun h q hq => by
  obtain ⟨k, hk⟩ := List.getElem?_of_mem hq
  exact h k q hk, fun h k q hq => h q (List.mem_of_getElem? hq)⟩
theorem vaD_iff {A : Nat → Prop} {ws : va_W} : va_D A ws ↔ ws.Pairwise (fun a b => a.1 ≠ b.1) ∧ ∀ q, q ∈ ws → A q.1 := by
  refine ⟨fun h => ⟨List.pairwise_iff_getElem.mpr (fun i j hi hj hij e => ?_), fun q hq => ?_⟩, fun h => ⟨fun i j p q hp hq e => ?_, fun k q hq => h.2 q (List.mem_of_getElem? hq)⟩⟩
  · have := h.1 i j _ _ (List.getElem?_eq_getElem hi) (List.getElem?_eq_getElem hj) e
    omega
  · obtain ⟨k, hk⟩ := List.getElem?_of_mem hq
    exact h.2 k q hk
  · obtain ⟨hi, ei⟩ := List.getElem?_eq_some_iff.mp hp
    obtain ⟨hj, ej⟩ := List.getElem?_eq_some_iff.mp hq
    have hpw := List.pairwise_iff_getElem.mp h.1
    rcases Nat.lt_trichotomy i j with c | c | c
    · exact absurd (by rw [ei, ej]; exact e) (hpw i j hi hj c)
    · exact c
    · exact absurd (by rw [ei, ej]; exact e.symm) (hpw j i hj hi c)
/-- behind a constructor: its cell has become what it made, all else stays -/
theorem va_mid {A0 : Nat → Prop} {D : va_G} {cl : List vw_C} {ws1 ws2 w1 : va_W} {q : Nat} {ce : va_E} {H H1 : Heap} (hP : va_P D cl (ws1 ++ (q, ce) :: ws2) H) (hD : va_D A0 (ws1 ++ (q, ce) :: ws2)) (hk : ∀ x : Nat, x < H.size → ¬ va_A [(q, ce)] H.size x → H1[x]? = H[x]?) (hF : ∀ x, va_A [(q, ce)] H.size x → A0 x) (hP1 : va_P D cl w1 H1) (hD1 : va_D (va_A [(q, ce)] H.size) w1) : va_P D cl (ws1 ++ (w1 ++ ws2)) H1 ∧ va_D A0 (ws1 ++ (w1 ++ ws2)) := by
  obtain ⟨d1, d2⟩ := vaD_iff.mp hD
  obtain ⟨e1, e2⟩ := vaD_iff.mp hD1
  obtain ⟨f1, f2, f3⟩ := List.pairwise_append.mp d1
  obtain ⟨g1, g2⟩ := List.pairwise_cons.mp f2
  have old : ∀ x, x ∈ ws1 ∨ x ∈ ws2 → x ∈ ws1 ++ (q, ce) :: ws2 := fun x hx => by
    rcases hx with h | h
    · exact List.mem_append_left _ h
    · exact List.mem_append_right _ (List.mem_cons_of_mem _ h)
  have lt : ∀ x, x ∈ ws1 ∨ x ∈ ws2 → x.1 < H.size := fun x hx => (vaP_iff.mp hP x (old x hx)).lt
  have ne : ∀ x, x ∈ ws1 ∨ x ∈ ws2 → x.1 ≠ q := fun x hx => by
    rcases hx with h | h
    · exact f3 x h (q, ce) (List.mem_cons_self ..)
    · exact fun e => g1 x h e.symm
  have nA : ∀ x, x ∈ ws1 ∨ x ∈ ws2 → ¬ va_A [(q, ce)] H.size x.1 := fun x hx z => by
    rcases z with ⟨k, e, z⟩ | z
    · have hk1 : k < 1 := (List.getElem?_eq_some_iff.mp z).1
      rw [show k = 0 by omega] at z
      have := congrArg Prod.fst (Option.some.inj z)
      exact ne x hx this.symm
    · have := lt x hx
      omega
  have new : ∀ x y, x ∈ ws1 ∨ x ∈ ws2 → y ∈ w1 → x.1 ≠ y.1 := fun x y hx hy e => nA x hx (by rw [e]; exact e2 y hy)
  refine ⟨vaP_iff.mpr (fun x hx => ?_), vaD_iff.mpr ⟨?_, fun x hx => ?_⟩⟩
  · rcases List.mem_append.mp hx with h | h
    · exact (vaP_iff.mp hP x (old x (.inl h))).kept (hk x.1 (lt x (.inl h)) (nA x (.inl h)))
    · rcases List.mem_append.mp h with h | h
      · exact vaP_iff.mp hP1 x h
      · exact (vaP_iff.mp hP x (old x (.inr h))).kept (hk x.1 (lt x (.inr h)) (nA x (.inr h)))
  · refine List.pairwise_append.mpr ⟨f1, List.pairwise_append.mpr ⟨e1, g2, fun a ha b hb => (new b a (.inr hb) ha).symm⟩, fun a ha b hb => ?_⟩
    rcases List.mem_append.mp hb with h | h
    · exact new a b (.inl ha) h
    · exact f3 a ha b (List.mem_cons_of_mem _ h)
  · rcases List.mem_append.mp hx with h | h
    · exact d2 x (old x (.inl h))
    · rcases List.mem_append.mp h with h | h
      · exact hF _ (e2 x h)
      · exact d2 x (old x (.inr h))
/-- what of the tables is handed on by hand: the array class of Bells, the links to private constructors -/
def nzl : List (String × Nat × MethodName) := [(RX10, 9, yX8_init), (RX10, 18, yX7_init), (RX10, 27, yX5_init), (RX10, 30, yX2_init), (RX10, 57, yX1_init), (RX4, 24, yX1_init), (RX6, 24, yX1_init), (RX10, 92, yX3_init)]
def NZ (U : State) : Prop := va_AO RX1 U ∧ ∀ q, q ∈ nzl → va_Nw (.methodLinkNest q.1 q.2.1 q.2.2 "MustNotStop") U
theorem NZ.warm {s U : State} (h : NZ s) (hW : s.WarmedH U.vm) : NZ U := ⟨va_AO.moved hW.alike h.1, fun q hq => va_Nw.warmM hW (h.2 q hq)⟩
theorem NZ.same {s U : State} (h : NZ s) (e : U.vm = s.vm) : NZ U := ⟨va_AO.moved (by rw [e]; exact Vm.Alike.refl _) h.1, fun q hq => va_Nw.same rfl e.symm (h.2 q hq)⟩
def tyO (ca : Nat → ClassId) : List (ClassId × FieldType) := [(ca 0, .int), (ca 1, .long), (ca 2, .boolean), (ca 3, .object RX1)]
def Zok (X : Cx) (G : va_G) (ca : Nat → ClassId) (cc : ByteArray) (own : String) (nL : Nat) (rm : Room) (A : Nat → Prop) : Prop := match X with
  | (p, _, _, R, s, m, args, _, _, c, _) => p.tables.exec = Jvm.exec ∧ c.code = cc ∧ c.maxLocals = nL ∧ R = rm ∧ s.vm.findClass own = some m.cls ∧ (∀ w ∈ wall, w.before args s = true) ∧ va_K G vwCl (tyO ca) s ∧ (∀ q : Nat, s.heap.size ≤ q → A q) ∧ NZ s
def Zin (X : Cx) : Prop := match X with
  | (_, _, _, _, _, _, _, _, meth, _, _) => meth.name = "<init>"
def Z (X : Cx) (G : va_G) (A : Nat → Prop) (kc kn : Nat) (ws : va_W) (pc : Nat) (lv : List (Nat × Value)) (st : List Value) : Prop := match X with
  | (p, l, e, R, s, m, args, below, meth, c, Q) => ∀ (H : Heap) (locs : List Loc) (ls : Array Slot), va_P G vwCl ws H → va_D A ws → va_S A s.heap H locs → lv_has ls c.maxLocals lv → W p l e R s m args below meth c H locs kc kn Q (F0 m pc ls st)
/-- a class that is made -/
def NWk (own : String) (index ci N : Nat) (fs : List Value) : Prop := ∃ (C : String) (T : u_T) (ty : Nat → FieldType), vwCl[ci]? = some (C, T, N) ∧ Cond.classLink own index C ∈ wall ∧ Cond.instantiable C N ∈ wall ∧ Cond.initialized C ∈ wall ∧ (∀ w ∈ u_ws C T N, w ∈ wall) ∧ (∀ k, k < N → parseFieldDescriptor (T k).2.2.1 = some (ty k)) ∧ ∀ j, j < N → defaultValue (ty j) = vp_V fs j
/-- a final field, written in its class's constructor -/
def FLf (own : String) (index ci k : Nat) (ty : FieldType) : Prop := ∃ (C : String) (T : u_T) (N : Nat) (ty0 : Nat → FieldType), vwCl[ci]? = some (C, T, N) ∧ k < N ∧ Cond.fieldLink own index (T k).1 (T k).2.1 (T k).2.2.1 ∈ wall ∧ (∀ w ∈ u_ws C T N, w ∈ wall) ∧
  (∀ k, k < N → parseFieldDescriptor (T k).2.2.1 = some (ty0 k)) ∧ (∀ a, a < N → ∀ b, b < N → a ≠ b → (T a).2.1 ≠ (T b).2.1) ∧ (T k).2.2.2 = true ∧ (T k).1 = own ∧ parseFieldDescriptor (T k).2.2.1 = some ty
def OBk (own : String) (index : Nat) : Prop := Cond.methodLink own index objectInit ∈ wall ∧ Cond.instanceMethod objectInit ∈ wall ∧ Cond.code objectInit ⟨#[0xb1]⟩ 1 none ∈ wall
def PZ (G : va_G) (ca : Nat → ClassId) (h0 : Nat) (ce : va_E) (vs : List Value) (sz : Nat) : Array Value → State → Prop := va_Pc vs (fun U => U.heap.size = sz ∧ va_P G vwCl [(h0, ce)] U.heap ∧ va_K G vwCl (tyO ca) U ∧ NZ U)
def QZ (G : va_G) (h0 : Nat) (ce : va_E) (sz : Nat) (blk : (Nat → Nat) → va_W) : Array Value → State → Outcome → State → Prop := va_Qv (S := Nat → Nat) (fun _ => True) (fun u t => va_P G vwCl (blk u) t.heap ∧ va_D (va_A [(h0, ce)] sz) (blk u)) (va_A [(h0, ce)] sz)
theorem PZ.blind {G : va_G} {ca : Nat → ClassId} {h0 : Nat} {ce : va_E} {vs : List Value} {sz : Nat} : FrameBlind (PZ G ca h0 ce vs sz) := fun a U g mk q => by
  obtain ⟨q0, q1, qP, qK, qO⟩ := q
  exact ⟨q0, q1, qP, va_K.moved (u := U) (U := U.calling g mk a) (Vm.Alike.refl U.vm) qK, qO.same rfl⟩
theorem vaD_one {A : Nat → Prop} {q : Nat} {ce : va_E} (h : A q) : va_D A [(q, ce)] := vaD_iff.mpr ⟨List.pairwise_singleton _ _, fun x hx => by rw [List.mem_singleton.mp hx]; exact h⟩
section ZR
variable {X : Cx} {G : va_G} {ca : Nat → ClassId} {A : Nat → Prop} {kc kn : Nat} {ws : va_W} {cc : ByteArray} {own : String} {nL : Nat} {rm : Room} {pc : Nat} {lv lv' : List (Nat × Value)} {st : List Value}
theorem Z_iconst {n : Int} {v : Int32} (hX : Zok X G ca cc own nL rm A) (d : decode cc pc = .ok (.iconst n, 1)) (hv0 : Int32.ofInt n = v) (kk : Z X G A kc kn ws (pc + 1) lv (.int v :: st)) : Z X G A kc kn ws pc lv (st) := by
  obtain ⟨p, l, e, R, s, m, args, below, meth, c, Q⟩ := X
  exact fun H locs ls hP hD hS hv => lv_iconst hX.1 hX.2.1 d hv0 (kk H locs ls hP hD hS hv)
theorem Z_bipush {n : Int} {v : Int32} (hX : Zok X G ca cc own nL rm A) (d : decode cc pc = .ok (.bipush n, 2)) (hv0 : (Int8.ofInt n).toInt32 = v) (kk : Z X G A kc kn ws (pc + 2) lv (.int v :: st)) : Z X G A kc kn ws pc lv (st) := by
  obtain ⟨p, l, e, R, s, m, args, below, meth, c, Q⟩ := X
  exact fun H locs ls hP hD hS hv => lv_bipush hX.1 hX.2.1 d hv0 (kk H locs ls hP hD hS hv)
theorem Z_sipush {n : Int} {v : Int32} (hX : Zok X G ca cc own nL rm A) (d : decode cc pc = .ok (.sipush n, 3)) (hv0 : (Int16.ofInt n).toInt32 = v) (kk : Z X G A kc kn ws (pc + 3) lv (.int v :: st)) : Z X G A kc kn ws pc lv (st) := by
  obtain ⟨p, l, e, R, s, m, args, below, meth, c, Q⟩ := X
  exact fun H locs ls hP hD hS hv => lv_sipush hX.1 hX.2.1 d hv0 (kk H locs ls hP hD hS hv)
theorem Z_dup {a : Value} (hX : Zok X G ca cc own nL rm A) (d : decode cc pc = .ok (.dup, 1)) (ha : a.category = 1) (kk : Z X G A kc kn ws (pc + 1) lv (a :: a :: st)) : Z X G A kc kn ws pc lv (a :: st) := by
  obtain ⟨p, l, e, R, s, m, args, below, meth, c, Q⟩ := X
  exact fun H locs ls hP hD hS hv => lv_dup hX.1 hX.2.1 d ha (kk H locs ls hP hD hS hv)
theorem Z_aload_n {k : Fin 4} {x : Nat} (hX : Zok X G ca cc own nL rm A) (d : decode cc pc = .ok (.aload_n k, 1)) (j : Nat) (hj : lv[j]? = some ((k : Nat), .ref x)) (kk : Z X G A kc kn ws (pc + 1) lv (.ref x :: st)) : Z X G A kc kn ws pc lv st := by
  obtain ⟨p, l, e, R, s, m, args, below, meth, c, Q⟩ := X
  exact fun H locs ls hP hD hS hv => lv_aload_n hX.1 hX.2.1 d rfl (lv_at hv j hj) (kk H locs ls hP hD hS hv)
theorem Z_iload_n {k : Fin 4} {x : Int32} (hX : Zok X G ca cc own nL rm A) (d : decode cc pc = .ok (.iload_n k, 1)) (j : Nat) (hj : lv[j]? = some ((k : Nat), .int x)) (kk : Z X G A kc kn ws (pc + 1) lv (.int x :: st)) : Z X G A kc kn ws pc lv st := by
  obtain ⟨p, l, e, R, s, m, args, below, meth, c, Q⟩ := X
  exact fun H locs ls hP hD hS hv => lv_iload_n hX.1 hX.2.1 d rfl (lv_at hv j hj) (kk H locs ls hP hD hS hv)
theorem Z_istore_n {k : Fin 4} {x : Int32} (hX : Zok X G ca cc own nL rm A) (d : decode cc pc = .ok (.istore_n k, 1)) (hn : (k : Nat) < nL) (hl : ((k : Nat), Value.int x) :: lv.filter (fun q => !(q.1 == (k : Nat)) && !(q.1 + 1 == (k : Nat) && q.2.category == 2)) = lv') (kk : Z X G A kc kn ws (pc + 1) lv' st) : Z X G A kc kn ws pc lv (.int x :: st) := by
  obtain ⟨p, l, e, R, s, m, args, below, meth, c, Q⟩ := X
  obtain ⟨h1, h2, rfl, -⟩ := hX
  exact fun H locs ls hP hD hS hv => lv_istore_n h1 h2 d rfl hv hn hl (fun ls' hv' => kk H locs ls' hP hD hS hv')
theorem Z_astore_n {k : Fin 4} {x : Nat} (hX : Zok X G ca cc own nL rm A) (d : decode cc pc = .ok (.astore_n k, 1)) (hn : (k : Nat) < nL) (hl : ((k : Nat), Value.ref x) :: lv.filter (fun q => !(q.1 == (k : Nat)) && !(q.1 + 1 == (k : Nat) && q.2.category == 2)) = lv') (kk : Z X G A kc kn ws (pc + 1) lv' st) : Z X G A kc kn ws pc lv (.ref x :: st) := by
  obtain ⟨p, l, e, R, s, m, args, below, meth, c, Q⟩ := X
  obtain ⟨h1, h2, rfl, -⟩ := hX
  exact fun H locs ls hP hD hS hv => lv_astore_n h1 h2 d rfl hv hn hl (fun ls' hv' => kk H locs ls' hP hD hS hv')
theorem Z_iinc {i j : Nat} {n : Int} {x v : Int32} (hX : Zok X G ca cc own nL rm A) (d : decode cc pc = .ok (.iinc i n, 3)) (hj : lv[j]? = some (i, .int x)) (hn : i < nL) (hv0 : x + Int32.ofInt n = v) (hl : (i, Value.int v) :: lv.filter (fun q => !(q.1 == i) && !(q.1 + 1 == i && q.2.category == 2)) = lv') (kk : Z X G A kc kn ws (pc + 3) lv' st) : Z X G A kc kn ws pc lv st := by
  obtain ⟨p, l, e, R, s, m, args, below, meth, c, Q⟩ := X
  obtain ⟨h1, h2, rfl, -⟩ := hX
  exact fun H locs ls hP hD hS hv => lv_iinc h1 h2 d hv hj hv0 hn hl (fun ls' hv' => kk H locs ls' hP hD hS hv')
theorem Z_goto {off : Int} {tgt : Nat} (hX : Zok X G ca cc own nL rm A) (d : decode cc pc = .ok (.goto off, 3)) (ht : (pc : Int) + off = (tgt : Int)) (kk : Z X G A kc kn ws tgt lv st) : Z X G A kc kn ws pc lv st := by
  obtain ⟨p, l, e, R, s, m, args, below, meth, c, Q⟩ := X
  exact fun H locs ls hP hD hS hv => lv_goto hX.1 hX.2.1 d ht (kk H locs ls hP hD hS hv)
theorem Z_icmp_ge {x y : Int32} {off : Int} {tgt : Nat} (hX : Zok X G ca cc own nL rm A) (d : decode cc pc = .ok (.if_icmp .ge off, 3)) (ht : (pc : Int) + off = (tgt : Int)) (kt : y ≤ x → Z X G A kc kn ws tgt lv st) (kf : ¬ y ≤ x → Z X G A kc kn ws (pc + 3) lv st) : Z X G A kc kn ws pc lv (.int y :: .int x :: st) := by
  obtain ⟨p, l, e, R, s, m, args, below, meth, c, Q⟩ := X
  exact fun H locs ls hP hD hS hv => lv_icmp_ge hX.1 hX.2.1 d ht (fun h => kt h H locs ls hP hD hS hv) (fun h => kf h H locs ls hP hD hS hv)
theorem Z_sub (is : List Nat) (hl : lv_pick lv is = lv') (kk : Z X G A kc kn ws pc lv' st) : Z X G A kc kn ws pc lv st := by
  obtain ⟨p, l, e, R, s, m, args, below, meth, c, Q⟩ := X
  exact fun H locs ls hP hD hS hv => kk H locs ls hP hD hS (lv_sub hv is hl)
theorem Z_objInit {index a : Nat} (hX : Zok X G ca cc own nL rm A) (hw : OBk own index) (hR : 1 ≤ rm.frames ∧ (st.map fun v => v.category).sum + 12 ≤ rm.locals) (d : decode cc pc = .ok (.invokespecial index, 3)) (kk : Z X G A kc kn ws (pc + 3) lv st) : Z X G A kc kn ws pc lv (.ref a :: st) := by
  obtain ⟨p, l, e, R, s, m, args, below, meth, c, Q⟩ := X
  obtain ⟨h1, h2, h3, rfl, h5, h6, h7, h8, h9⟩ := hX
  obtain ⟨w1, w2, w3⟩ := hw
  intro H locs ls hP hD hS hl
  refine W.objInit h1 h2 h5 (h6 _ w1) (h6 _ w2) (h6 _ w3) rfl hl.1 rfl d hR.1 (by
    show 2 * 0 + _ + 12 ≤ _
    rw [Nat.mul_zero, Nat.zero_add]; exact hR.2) ?_
  exact kk H locs ls hP hD hS hl
theorem Z_new {index ci N : Nat} {fs : List Value} (hX : Zok X G ca cc own nL rm A) (hw : NWk own index ci N fs) (hc : kc + 1 ≤ rm.cells ∧ kn + N ≤ rm.slots) (d : decode cc pc = .ok (.new index, 3)) (kk : ∀ q, Z X G A (kc + 1) (kn + N) (ws ++ [(q, .inr (ci, fs))]) (pc + 3) lv (.ref q :: st)) : Z X G A kc kn ws pc lv st := by
  obtain ⟨p, l, e, R, s, m, args, below, meth, c, Q⟩ := X
  obtain ⟨h1, h2, h3, rfl, h5, h6, h7, h8, h9⟩ := hX
  obtain ⟨C, T, ty, w1, w2, w3, w4, w5, w6, w7⟩ := hw
  exact fun H locs ls hP hD hS hl => va_new (Ts := wall) h1 h2 h6 w5 ty w6 h5 (h6 _ w2) (h6 _ w3) (h6 _ w4) h7 hP hD hS h8 w1 w7 hc.1 hc.2 d (fun q H1 hP1 hD1 hS1 => kk q H1 locs ls hP1 hD1 hS1 hl)
theorem ar_same {ty : FieldType} {s : State} {D : va_G} {tys : List (ClassId × FieldType)} {c1 c2 : ClassId} {i : Nat} (h1 : va_K D vwCl (tys ++ [(c1, ty)]) s) (h2 : va_K D vwCl tys s) (hi : tys[i]? = some (c2, ty)) : c1 = c2 := by
  have a1 : va_RA s c1 ty := (h1.2 tys.length (c1, ty) (by rw [List.getElem?_append_right (Nat.le_refl _), Nat.sub_self]; rfl)).2
  have a2 : va_RA s c2 ty := (h2.2 i (c2, ty) hi).2
  cases ty with
  | object C =>
    obtain ⟨k1, m1, -, -, -, e1⟩ := a1
    obtain ⟨k2, m2, -, -, -, e2⟩ := a2
    exact Option.some.inj (e1.symm.trans e2)
  | _ =>
    have a1 : s.vm.findClass _ = some c1 := a1
    exact Option.some.inj (a1.symm.trans a2)
theorem Z_newa {at0 : ArrayType} {ty : FieldType} {i n : Nat} {v : Int32} {a0 : vp_A} (hX : Zok X G ca cc own nL rm A) (hty : newarray.typeOf at0 = ty) (hw : Cond.arrayClass ty ∈ wall) (hi : (tyO ca)[i]? = some (ca i, ty)) (ha : ∀ cA : ClassId, vp_cell cA a0 = arrV cA n (fun _ => defaultValue ty)) (hv : ¬ v < 0 ∧ v.toNatClampNeg = n ∧ n * componentBytes ty ≤ 536870912) (hc : kc + 1 ≤ rm.cells ∧ kn + n ≤ rm.slots) (d : decode cc pc = .ok (.newarray at0, 2)) (kk : ∀ q, Z X G A (kc + 1) (kn + n) (ws ++ [(q, .inl (ca i, a0))]) (pc + 2) lv (.ref q :: st)) : Z X G A kc kn ws pc lv (.int v :: st) := by
  obtain ⟨p, l, e, R, s, m, args, below, meth, c, Q⟩ := X
  obtain ⟨h1, h2, h3, rfl, h5, h6, h7, h8, h9⟩ := hX
  subst hty
  refine fun H locs ls hP hD hS hl => va_newa h1 h2 (h6 _ hw) rfl h7 hP hD hS h8 ha hv.1 hv.2.1 hv.2.2 hc.1 hc.2 d (fun q cA H1 hK1 hP1 hD1 hS1 => ?_)
  have e := ar_same hK1 h7 hi
  subst e
  exact kk q H1 locs ls hP1 hD1 hS1 hl
theorem Z_newq {index n : Nat} {v : Int32} (hX : Zok X G ca cc own nL rm A) (hw : Cond.classLink own index RX1 ∈ wall) (hv : ¬ v < 0 ∧ v.toNatClampNeg = n ∧ n * 4 ≤ 536870912) (hc : kc + 1 ≤ rm.cells ∧ kn + n ≤ rm.slots) (d : decode cc pc = .ok (.anewarray index, 3)) (kk : ∀ q, Z X G A (kc + 1) (kn + n) (ws ++ [(q, .inl (ca 3, n, .inr (.inr (.inr (.inr (fun _ => none))))))]) (pc + 3) lv (.ref q :: st)) : Z X G A kc kn ws pc lv (.int v :: st) := by
  obtain ⟨p, l, e, R, s, m, args, below, meth, c, Q⟩ := X
  obtain ⟨h1, h2, h3, rfl, h5, h6, h7, h8, h9⟩ := hX
  refine fun H locs ls hP hD hS hl => va_newq h1 h2 h5 (h6 _ hw) h9.1 h7 hP hD hS h8 hv.1 hv.2.1 hv.2.2 hc.1 hc.2 d (fun q cA H1 hK1 hP1 hD1 hS1 => ?_)
  have e := ar_same (i := 3) hK1 h7 rfl
  subst e
  exact kk q H1 locs ls hP1 hD1 hS1 hl
theorem Z_put {a ci k index : Nat} {fs : List Value} {ty : FieldType} {v : Value} (q0 : Nat) (hX : Zok X G ca cc own nL rm A) (hf : FLw own index ci k ty) (he : ws[q0]? = some (a, .inr (ci, fs))) (hn : narrow ty v = v ∧ fits ty v = true ∧ k < fs.length) (d : decode cc pc = .ok (.putfield index, 3)) (kk : Z X G A kc kn (ws.set q0 (a, .inr (ci, fs.set k v))) (pc + 3) lv st) : Z X G A kc kn ws pc lv (v :: .ref a :: st) := by
  obtain ⟨p, l, e, R, s, m, args, below, meth, c, Q⟩ := X
  obtain ⟨h1, h2, h3, rfl, h5, h6, h7, h8, h9⟩ := hX
  obtain ⟨C, T, N, ty0, f1, f2, f3, f4, f5, f6, f7, f8⟩ := hf
  exact fun H locs ls hP hD hS hl => va_put (Ts := wall) h1 h2 h6 f4 ty0 f5 f6 h5 h7 hP hD hS q0 he f1 k f2 (h6 _ f3) (fun _ h9 => h9) f7 f8 hn.1 hn.2.1 hn.2.2 d (fun H1 locs1 hP1 hD1 hS1 => kk H1 locs1 ls hP1 hD1 hS1 hl)
theorem Z_putF {a ci k index : Nat} {fs : List Value} {ty : FieldType} {v : Value} (q0 : Nat) (hX : Zok X G ca cc own nL rm A) (hI : Zin X) (hf : FLf own index ci k ty) (he : ws[q0]? = some (a, .inr (ci, fs))) (hn : narrow ty v = v ∧ fits ty v = true ∧ k < fs.length) (d : decode cc pc = .ok (.putfield index, 3)) (kk : Z X G A kc kn (ws.set q0 (a, .inr (ci, fs.set k v))) (pc + 3) lv st) : Z X G A kc kn ws pc lv (v :: .ref a :: st) := by
  obtain ⟨p, l, e, R, s, m, args, below, meth, c, Q⟩ := X
  obtain ⟨h1, h2, h3, rfl, h5, h6, h7, h8, h9⟩ := hX
  obtain ⟨C, T, N, ty0, f1, f2, f3, f4, f5, f6, f7, f8, f9⟩ := hf
  exact fun H locs ls hP hD hS hl => va_putF (Ts := wall) h1 h2 h6 f4 ty0 f5 f6 h5 h7 hP hD hS q0 he f1 k f2 (h6 _ f3) (fun _ h9 => h9) f7 hI f8 f9 hn.1 hn.2.1 hn.2.2 d (fun H1 locs1 hP1 hD1 hS1 => kk H1 locs1 ls hP1 hD1 hS1 hl)
theorem Z_get {a ci k index : Nat} {fs : List Value} {v : Value} (q0 : Nat) (hX : Zok X G ca cc own nL rm A) (hf : FLk own index ci k) (he : ws[q0]? = some (a, .inr (ci, fs))) (hv : fs[k]? = some v) (d : decode cc pc = .ok (.getfield index, 3)) (kk : Z X G A kc kn ws (pc + 3) lv (v :: st)) : Z X G A kc kn ws pc lv (.ref a :: st) := by
  obtain ⟨p, l, e, R, s, m, args, below, meth, c, Q⟩ := X
  obtain ⟨h1, h2, h3, rfl, h5, h6, h7, h8, h9⟩ := hX
  obtain ⟨C, T, N, f1, f2, f3, f4⟩ := hf
  exact fun H locs ls hP hD hS hl => va_get (Ts := wall) h1 h2 h6 f4 h5 h7 hP q0 he f1 k f2 (h6 _ f3) (fun _ h9 => h9) hv d (kk H locs ls hP hD hS hl)
theorem Z_alen {a i : Nat} {x : vp_A} {ty : FieldType} {v : Int32} (q0 : Nat) (hX : Zok X G ca cc own nL rm A) (he : ws[q0]? = some (a, .inl (ca i, x))) (hi : (tyO ca)[i]? = some (ca i, ty)) (hv : Int32.ofNat x.1 = v) (d : decode cc pc = .ok (.arraylength, 1)) (kk : Z X G A kc kn ws (pc + 1) lv (.int v :: st)) : Z X G A kc kn ws pc lv (.ref a :: st) := by
  obtain ⟨p, l, e, R, s, m, args, below, meth, c, Q⟩ := X
  obtain ⟨h1, h2, h3, rfl, h5, h6, h7, h8, h9⟩ := hX
  exact fun H locs ls hP hD hS hl => va_alen h1 h2 h7 hP q0 i he hi hv d (kk H locs ls hP hD hS hl)
theorem Z_iast {a n : Nat} {f : Nat → Int32} {j x : Int32} (q0 : Nat) (hX : Zok X G ca cc own nL rm A) (he : ws[q0]? = some (a, .inl (ca 0, n, .inl f))) (hin : inB j n = true) (d : decode cc pc = .ok (.iastore, 1)) (kk : Z X G A kc kn (ws.set q0 (a, .inl (ca 0, n, .inl (upd f j.toNatClampNeg x)))) (pc + 1) lv st) : Z X G A kc kn ws pc lv (.int x :: .int j :: .ref a :: st) := by
  obtain ⟨p, l, e, R, s, m, args, below, meth, c, Q⟩ := X
  obtain ⟨h1, h2, h3, rfl, h5, h6, h7, h8, h9⟩ := hX
  exact fun H locs ls hP hD hS hl => va_iast h1 h2 h7 hP hD hS q0 0 he rfl (inB_in hin) d (fun H1 locs1 hP1 hD1 hS1 => kk H1 locs1 ls hP1 hD1 hS1 hl)
theorem Z_aast {a n v : Nat} {vs : List Value} {f : Nat → Option Nat} {j : Int32} (q0 qk : Nat) (hX : Zok X G ca cc own nL rm A) (he : ws[q0]? = some (a, .inl (ca 3, n, .inr (.inr (.inr (.inr f)))))) (hv : ws[qk]? = some (v, .inr (3, vs))) (hin : inB j n = true) (d : decode cc pc = .ok (.aastore, 1)) (kk : Z X G A kc kn (ws.set q0 (a, .inl (ca 3, n, .inr (.inr (.inr (.inr (va_up f j.toNatClampNeg (some v)))))))) (pc + 1) lv st) : Z X G A kc kn ws pc lv (.ref v :: .int j :: .ref a :: st) := by
  obtain ⟨p, l, e, R, s, m, args, below, meth, c, Q⟩ := X
  obtain ⟨h1, h2, h3, rfl, h5, h6, h7, h8, h9⟩ := hX
  exact fun H locs ls hP hD hS hl => va_astq (r := (RX1, TX1, 9)) h1 h2 h7 hP hD hS q0 3 qk 3 he rfl hv rfl (inB_in hin) d (fun H1 locs1 hP1 hD1 hS1 => kk H1 locs1 ls hP1 hD1 hS1 hl)
theorem Z_init {index maxL n mc ms q : Nat} {y : MethodName} {bytes : ByteArray} {rmc : Room} {ce : va_E} {blk : (Nat → Nat) → va_W} {As rest : List Value} (ws1 ws2 : va_W) (hX : Zok X G ca cc own nL rm A) (hk : MIk own index y bytes maxL none) (hy : y.name = "<init>" ∧ y.cls ≠ "java/lang/invoke/MethodHandle" ∧ y.cls ≠ "java/lang/invoke/VarHandle" ∧ (parseMethodDescriptor y.desc).map (fun d => d.parameters.length) = some n) (hM : ∀ l sz, Met l y (wsg y bytes maxL none) rmc (PZ G ca q ce (.ref q :: As) sz) (QZ G q ce sz blk) mc ms (va_A [(q, ce)] sz)) (hrc : rmc.cells = mc ∧ rmc.slots = ms) (hR : rmc.frames + 1 ≤ rm.frames ∧ 8 + (maxL + 11) + rmc.locals ≤ rm.locals) (hn : As.length = n) (hst : st = As.reverse ++ .ref q :: rest) (hws : ws = ws1 ++ (q, ce) :: ws2) (hW : (rest.map fun v => v.category).sum ≤ 8) (d : decode cc pc = .ok (.invokespecial index, 3)) (hf : kc + mc ≤ rm.cells ∧ kn + ms ≤ rm.slots) (kk : ∀ u, Z X G A (kc + mc) (kn + ms) (ws1 ++ (blk u ++ ws2)) (pc + 3) lv rest) : Z X G A kc kn ws pc lv st := by
  subst hst
  subst hws
  obtain ⟨p, l, e, R, s, m, args, below, meth, c, Q⟩ := X
  obtain ⟨h1, h2, h3, rfl, h5, h6, h7, h8, h9⟩ := hX
  obtain ⟨k1, k2, k3, k4⟩ := hk
  obtain ⟨y1, y2⟩ := hy
  intro H locs ls hP hD hS hl
  have hF : ∀ x, va_A [(q, ce)] H.size x → A x := fun x hx => by
    rcases hx with ⟨j, e, hx⟩ | hx
    · have hj1 : j < 1 := (List.getElem?_eq_some_iff.mp hx).1
      rw [show j = 0 by omega] at hx
      have := congrArg Prod.fst (Option.some.inj hx)
      rw [← show q = x from this]
      exact (vaD_iff.mp hD).2 (q, ce) (List.mem_append_right _ (List.mem_cons_self ..))
    · exact h8 x (Nat.le_trans hS.1 hx)
  have hPc : va_P G vwCl [(q, ce)] H := vaP_iff.mpr (fun x hx => by
    rw [List.mem_singleton.mp hx]
    exact vaP_iff.mp hP (q, ce) (List.mem_append_right _ (List.mem_cons_self ..)))
  refine va_callv (va_runI (As := As) (rest := rest) ⟨h1, h2, h3, h5, h6⟩ (hM l H.size) (cwI n h6 (wall_to k4) rfl hrc.1 hrc.2 (h6 _ k3) (h6 _ k1) (h6 _ k2) y1 y2 hR) ⟨PZ.blind, fun U hU hW => ⟨rfl, by rw [hU], by rw [hU]; exact hPc, va_K.moved hW.alike h7, h9.warm hW⟩⟩ rfl hn (hl.1.trans h3) rfl (lv_room hW) d hf) hS (fun q _ h => hF q h) hF (fun u t H1 locs1 ht hvm hw hB hz hk1 hS1 => ?_)
  obtain ⟨hP1, hD1⟩ := hB
  rw [ht] at hP1
  obtain ⟨hP2, hD2⟩ := va_mid hP hD hk1 hF hP1 hD1
  exact kk u H1 locs1 ls hP2 hD2 hS1 hl
theorem Z_initN {index maxL n mc ms q : Nat} {y : MethodName} {bytes : ByteArray} {rmc : Room} {ce : va_E} {blk : (Nat → Nat) → va_W} {As rest : List Value} (ws1 ws2 : va_W) (hX : Zok X G ca cc own nL rm A) (hk : (own, index, y) ∈ nzl ∧ Cond.instanceMethod y ∈ wall ∧ Cond.initialized y.cls ∈ wall ∧ Cond.code y bytes maxL none ∈ wall) (hy : y.name = "<init>" ∧ y.cls ≠ "java/lang/invoke/MethodHandle" ∧ y.cls ≠ "java/lang/invoke/VarHandle" ∧ (parseMethodDescriptor y.desc).map (fun d => d.parameters.length) = some n) (hM : ∀ l sz, Met l y (wsg y bytes maxL none) rmc (PZ G ca q ce (.ref q :: As) sz) (QZ G q ce sz blk) mc ms (va_A [(q, ce)] sz)) (hrc : rmc.cells = mc ∧ rmc.slots = ms) (hR : rmc.frames + 1 ≤ rm.frames ∧ 8 + (maxL + 11) + rmc.locals ≤ rm.locals) (hn : As.length = n) (hst : st = As.reverse ++ .ref q :: rest) (hws : ws = ws1 ++ (q, ce) :: ws2) (hW : (rest.map fun v => v.category).sum ≤ 8) (d : decode cc pc = .ok (.invokespecial index, 3)) (hf : kc + mc ≤ rm.cells ∧ kn + ms ≤ rm.slots) (kk : ∀ u, Z X G A (kc + mc) (kn + ms) (ws1 ++ (blk u ++ ws2)) (pc + 3) lv rest) : Z X G A kc kn ws pc lv st := by
  subst hst
  subst hws
  obtain ⟨p, l, e, R, s, m, args, below, meth, c, Q⟩ := X
  obtain ⟨h1, h2, h3, rfl, h5, h6, h7, h8, h9⟩ := hX
  obtain ⟨k1, k2, k3, k4⟩ := hk
  obtain ⟨y1, y2⟩ := hy
  intro H locs ls hP hD hS hl
  have hF : ∀ x, va_A [(q, ce)] H.size x → A x := fun x hx => by
    rcases hx with ⟨j, e, hx⟩ | hx
    · have hj1 : j < 1 := (List.getElem?_eq_some_iff.mp hx).1
      rw [show j = 0 by omega] at hx
      have := congrArg Prod.fst (Option.some.inj hx)
      rw [← show q = x from this]
      exact (vaD_iff.mp hD).2 (q, ce) (List.mem_append_right _ (List.mem_cons_self ..))
    · exact h8 x (Nat.le_trans hS.1 hx)
  have hPc : va_P G vwCl [(q, ce)] H := vaP_iff.mpr (fun x hx => by
    rw [List.mem_singleton.mp hx]
    exact vaP_iff.mp hP (q, ce) (List.mem_append_right _ (List.mem_cons_self ..)))
  refine va_callv (va_runIN (host := "MustNotStop") (As := As) (rest := rest) ⟨h1, h2, h3, h5, h6⟩ (hM l H.size) ⟨va_cnB n h6 (wall_to k4) rfl hrc.1 hrc.2 (h9.2 _ k1) (h6 _ k3) y2 hR, y1, h6 _ k2⟩ ⟨PZ.blind, fun U hU hW => ⟨rfl, by rw [hU], by rw [hU]; exact hPc, va_K.moved hW.alike h7, h9.warm hW⟩⟩ rfl hn (hl.1.trans h3) rfl (lv_room hW) d hf) hS (fun q _ h => hF q h) hF (fun u t H1 locs1 ht hvm hw hB hz hk1 hS1 => ?_)
  obtain ⟨hP1, hD1⟩ := hB
  rw [ht] at hP1
  obtain ⟨hP2, hD2⟩ := va_mid hP hD hk1 hF hP1 hD1
  exact kk u H1 locs1 ls hP2 hD2 hS1 hl
theorem zmet {l : Launch} {y : MethodName} {maxL h0 sz mc ms : Nat} {ce : va_E} {blk : (Nat → Nat) → va_W} {vs : List Value} (hy : plainName y.cls = true) (hown : y.cls = own) (hnm : y.name = "<init>") (hn : (lg_sl vs).length ≤ maxL) (body : ∀ (X : Cx) (A : Nat → Prop), Zok X G ca cc own maxL rm A → Zin X → (∀ u pc lv, decode cc pc = .ok (.return_, 1) → Z X G A mc ms (blk u) pc lv []) → Z X G A 0 0 [(h0, ce)] 0 (lv_args 0 vs) []) : Met l y (wsg y cc maxL none) rm (PZ G ca h0 ce vs sz) (QZ G h0 ce sz blk) mc ms (va_A [(h0, ce)] sz) := by
  refine Met.ofW (cc := cc) (maxL := maxL) (ret := none) hy rfl ?_
  intro p e s m args below meth c s₁ B hml hv
  obtain ⟨rfl, hsz, hP, hK, hO⟩ := hv
  subst hsz
  have hx := B.exec
  have hb := B.bytes
  have hr := B.returns
  have hts := atoms_spec (ws := wsg y cc maxL none) B.pre
  have hf : s.vm.findClass own = some m.cls := by rw [← hown]; exact findClass_of_methodNamed B.named
  have hin : meth.name = y.name := (name_of_methodNamed B.named B.method).1
  rw [hnm] at hin
  have hlocks := B.notSynchronized
  have hl := lv_entry vs (n := maxL) hn
  rw [lg_entry_eq]
  generalize (lg_sl vs ++ List.replicate (maxL - (lg_sl vs).length) Slot.unset).toArray = ls at hl ⊢
  refine body (p, l, e, rm, s, m, _, below, meth, c, MQ below (QZ G h0 ce s.heap.size blk) vs.toArray s mc ms (va_A [(h0, ce)] s.heap.size)) (va_A [(h0, ce)] s.heap.size) ⟨hx, hb, hml, rfl, hf, fun w h => hts w (List.mem_cons_of_mem _ h), hK, fun q h => .inr h, hO⟩ hin ?_ s.heap [] ls hP (vaD_one (va_A.in (k := 0) (q := (h0, ce)) rfl)) va_S.rf (by rw [hml]; exact hl)
  intro u pc lv d H locs ls2 hP2 hD2 hS2 hl2
  exact W.vret hx hb hr (fun t ht hW => ⟨⟨u, rfl, trivial, by rw [ht]; exact hP2, hD2⟩, hS2.F ht⟩) hS2.2.2 d
end ZR
