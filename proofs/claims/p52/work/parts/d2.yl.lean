-- ===== what lists ask =====
def FLs (own : String) (index ci k : Nat) (ty : FieldType) : Prop := ∃ (C : String) (T : u_T) (N : Nat) (ty0 : Nat → FieldType) (ref : String), vwCl[ci]? = some (C, T, N) ∧ k < N ∧ Cond.fieldLink own index ref (T k).2.1 (T k).2.2.1 ∈ wall ∧ Cond.sameField ref (T k).1 (T k).2.1 (T k).2.2.1 ∈ wall ∧ (∀ w ∈ u_ws C T N, w ∈ wall) ∧
  (∀ k, k < N → parseFieldDescriptor (T k).2.2.1 = some (ty0 k)) ∧ (∀ a, a < N → ∀ b, b < N → a ≠ b → (T a).2.1 ≠ (T b).2.1) ∧ (T k).2.2.2 = false ∧ parseFieldDescriptor (T k).2.2.1 = some ty
abbrev gcM : MethodName := ⟨"java/lang/Object", "getClass", "()Ljava/lang/Class;"⟩
abbrev oaN : String := "[Ljava/lang/Object;"
section YL
variable {X : Cx} {S : Sx} {K : Kx} {A : Nat → Prop} {E : Ex} {kc kn : Nat} {bl bl' : Bk} {cc : ByteArray} {own : String} {nL : Nat} {rm : Room} {pc : Nat} {lv lv' : List (Nat × Value)} {st : List Value}
theorem Y_getS {a ci k index : Nat} {ty : FieldType} {fs : List Value} {v : Value} {ws : va_W} (b i : Nat) (hX : Yok X S K A cc own nL rm) (hf : FLs own index ci k ty) (hb : bl[b]? = some ws) (he : ws[i]? = some (a, .inr (ci, fs))) (hv : fs[k]? = some v) (d : decode cc pc = .ok (.getfield index, 3)) (kk : Y X S K A kc kn bl (pc + 3) lv (v :: st)) : Y X S K A kc kn bl pc lv (.ref a :: st) := by
  obtain ⟨p, l, e, R, s, m, args, below, meth, c, Q⟩ := X
  obtain ⟨h1, h2, h3, rfl, h5, h6, h7, h8, h9⟩ := hX
  obtain ⟨C, T, N, ty0, ref, f1, f2, f3, f4, f5, -⟩ := hf
  obtain ⟨q0, g1, -⟩ := fl_at hb he
  exact fun H locs ls hP hD hS hl => va_get (Ts := wall) h1 h2 h6 f5 h5 h7 hP q0 g1 f1 k f2 (h6 _ f3) (u_same (h6 _ f4)) hv d (kk H locs ls hP hD hS hl)
theorem Y_putS {a ci k index : Nat} {fs : List Value} {ty : FieldType} {v : Value} {ws : va_W} (b i : Nat) (hX : Yok X S K A cc own nL rm) (hf : FLs own index ci k ty) (hb : bl[b]? = some ws) (he : ws[i]? = some (a, .inr (ci, fs))) (hn : narrow ty v = v ∧ fits ty v = true ∧ k < fs.length) (d : decode cc pc = .ok (.putfield index, 3)) (kk : Y X S K A kc kn (bl.set b (ws.set i (a, .inr (ci, fs.set k v)))) (pc + 3) lv st) : Y X S K A kc kn bl pc lv (v :: .ref a :: st) := by
  obtain ⟨p, l, e, R, s, m, args, below, meth, c, Q⟩ := X
  obtain ⟨h1, h2, h3, rfl, h5, h6, h7, h8, h9⟩ := hX
  obtain ⟨C, T, N, ty0, ref, f1, f2, f3, f4, f5, f6, f7, f8, f9⟩ := hf
  obtain ⟨q0, g1, g2⟩ := fl_at hb he
  refine fun H locs ls hP hD hS hl => va_put (Ts := wall) h1 h2 h6 f5 ty0 f6 f7 h5 h7 hP hD hS q0 g1 f1 k f2 (h6 _ f3) (u_same (h6 _ f4)) f8 f9 hn.1 hn.2.1 hn.2.2 d (fun H1 locs1 hP1 hD1 hS1 => ?_)
  rw [g2] at hP1 hD1
  exact kk H1 locs1 ls hP1 hD1 hS1 hl
theorem Y_acmp_eq {rx ry : Option Nat} {off : Int} {tgt : Nat} (hX : Yok X S K A cc own nL rm) (d : decode cc pc = .ok (.if_acmp .eq off, 3)) (ht : (pc : Int) + off = (tgt : Int)) (kt : rx = ry → Y X S K A kc kn bl tgt lv st) (kf : ¬ rx = ry → Y X S K A kc kn bl (pc + 3) lv st) : Y X S K A kc kn bl pc lv (va_rf ry :: va_rf rx :: st) := by
  obtain ⟨p, l, e, R, s, m, args, below, meth, c, Q⟩ := X
  exact fun H locs ls hP hD hS hv => lv_acmp_eq hX.1 hX.2.1 d ht (fun h => kt h H locs ls hP hD hS hv) (fun h => kf h H locs ls hP hD hS hv)
theorem Y_acmp_ne {rx ry : Option Nat} {off : Int} {tgt : Nat} (hX : Yok X S K A cc own nL rm) (d : decode cc pc = .ok (.if_acmp .ne off, 3)) (ht : (pc : Int) + off = (tgt : Int)) (kt : ¬ rx = ry → Y X S K A kc kn bl tgt lv st) (kf : rx = ry → Y X S K A kc kn bl (pc + 3) lv st) : Y X S K A kc kn bl pc lv (va_rf ry :: va_rf rx :: st) := by
  obtain ⟨p, l, e, R, s, m, args, below, meth, c, Q⟩ := X
  exact fun H locs ls hP hD hS hv => lv_acmp_ne hX.1 hX.2.1 d ht (fun h => kt h H locs ls hP hD hS hv) (fun h => kf h H locs ls hP hD hS hv)
theorem Y_ldcM {index mi : Nat} {C : String} (hX : Yok X S K A cc own nL rm) (hE : YE X A E) (hM : ∀ s, E A s → va_Mi C mi s) (hw : Cond.classLink own index C ∈ wall) (d : decode cc pc = .ok (.ldc index, 2)) (kk : Y X S K A kc kn bl (pc + 2) lv (.ref mi :: st)) : Y X S K A kc kn bl pc lv st := by
  obtain ⟨p, l, e, R, s, m, args, below, meth, c, Q⟩ := X
  obtain ⟨h1, h2, h3, rfl, h5, h6, h7, h8, h9⟩ := hX
  exact fun H locs ls hP hD hS hl => va_ldcM h1 h2 h5 (h6 _ hw) (hM s hE.2.1) d (kk H locs ls hP hD hS hl)
def GCk (own : String) (index : Nat) : Prop := Cond.methodLink own index gcM ∈ wall ∧ Cond.selects oaN gcM gcM ∈ wall ∧ Cond.instanceMethod gcM ∈ wall ∧ Cond.native gcM ∈ wall
theorem Y_getC {a index mi n : Nat} {f : Nat → Option Nat} {ws : va_W} (b i : Nat) (hX : Yok X S K A cc own nL rm) (hE : YE X A E) (hM : ∀ s, E A s → va_Mi oaN mi s ∧ va_Dc s) (hk : GCk own index) (hb : bl[b]? = some ws) (he : ws[i]? = some (a, .inl (K.1 2, n, .inr (.inr (.inr (.inr f)))))) (hR : 1 ≤ rm.frames ∧ (st.map fun v => v.category).sum + 14 ≤ rm.locals) (d : decode cc pc = .ok (.invokevirtual index, 3)) (kk : Y X S K A kc kn bl (pc + 3) lv (.ref mi :: st)) : Y X S K A kc kn bl pc lv (.ref a :: st) := by
  obtain ⟨p, l, e, R, s, m, args, below, meth, c, Q⟩ := X
  obtain ⟨h1, h2, h3, rfl, h5, h6, h7, h8, h9⟩ := hX
  obtain ⟨k1, k2, k3, k4⟩ := hk
  obtain ⟨q0, g1, -⟩ := fl_at hb he
  obtain ⟨kA, comp, c1, c2, c3, c4⟩ := (h7.2 6 _ rfl).2
  rw [show "[" ++ (FieldType.object "java/lang/Object").toString = oaN from by decide +kernel] at c4
  refine fun H locs ls hP hD hS hl => va_getC h1 h2 hl.1.symm h5 (h6 _ k1) (hM s hE.2.1).2.use (h6 _ k2) (h6 _ k3) (h6 _ k4) (hM s hE.2.1).1 ⟨_, hP q0 _ g1, rfl, c4⟩ hR.1 hR.2 d (kk H locs ls hP hD hS hl)
/-- references copied, within one array or from one into another: all to towers kept -/
theorem Y_copyO {index a a0 n0 n1 : Nat} {f g : Nat → Option Nat} {sp dp n : Int32} {ws ws0 : va_W} (b0 i0 b i : Nat) (hX : Yok X S K A cc own nL rm) (hk : ACk own index) (hb0 : bl[b0]? = some ws0) (he0 : ws0[i0]? = some (a0, .inl (K.1 2, n0, .inr (.inr (.inr (.inr f)))))) (hb : bl[b]? = some ws) (he : ws[i]? = some (a, .inl (K.1 2, n1, .inr (.inr (.inr (.inr g)))))) (hg : ¬ sp < 0 ∧ ¬ dp < 0 ∧ ¬ n < 0 ∧ sp.toNatClampNeg + n.toNatClampNeg ≤ n0 ∧ dp.toNatClampNeg + n.toNatClampNeg ≤ n1) (hel : ∀ k y, f k = some y → ∃ (b i : Nat) (ws : va_W) (vs : List Value), bl[b]? = some ws ∧ ws[i]? = some (y, .inr (13, vs))) (hR : 1 ≤ rm.frames ∧ (st.map fun v => v.category).sum + (nativeFrameWords "java/lang/System" "arraycopy" 5 + 11) ≤ rm.locals) (d : decode cc pc = .ok (.invokestatic index, 3)) (kk : Y X S K A kc kn (bl.set b (ws.set i (a, .inl (K.1 2, n1, .inr (.inr (.inr (.inr (va_cpy f g sp.toNatClampNeg dp.toNatClampNeg n.toNatClampNeg)))))))) (pc + 3) lv st) : Y X S K A kc kn bl pc lv (.int n :: .int dp :: .ref a :: .int sp :: .ref a0 :: st) := by
  obtain ⟨p, l, e, R, s, m, args, below, meth, c, Q⟩ := X
  obtain ⟨h1, h2, h3, rfl, h5, h6, h7, h8, h9⟩ := hX
  obtain ⟨q0, g1, g2⟩ := fl_at hb he
  obtain ⟨q1, g3, -⟩ := fl_at hb0 he0
  obtain ⟨k1, k2, k3, k4⟩ := hk
  obtain ⟨y1, y2, y3, y4, y5⟩ := hg
  refine fun H locs ls hP hD hS hl => va_copyq (C := RX11) h1 h2 hl.1.symm h5 (h6 _ k1) (h6 _ k2) (h6 _ k3) (h6 _ k4) h7 hP hD hS q1 q0 6 6 g3 g1 rfl rfl y1 y2 y3 y4 y5 (fun i _ y hy => ?_) (vb_asgC (h9.2.2.2.2 (RX11, "java/lang/Object") (by decide))) hR.1 hR.2 d (fun H1 locs1 hP1 hD1 hS1 => ?_)
  · obtain ⟨b', i', ws', vs, e1, e2⟩ := hel _ _ hy
    obtain ⟨q2, g4, -⟩ := fl_at e1 e2
    exact va_recv (q := (RX11, TX11, 9)) h7 hP rfl g4
  · rw [g2] at hP1 hD1
    exact kk H1 locs1 ls hP1 hD1 hS1 hl
theorem Y_castO {a ci index : Nat} {r : vw_C} {fs : List Value} {ws : va_W} (b i : Nat) (hX : Yok X S K A cc own nL rm) (hc : vwCl[ci]? = some r) (hw : Cond.classLink own index r.1 ∈ wall) (hb : bl[b]? = some ws) (he : ws[i]? = some (a, .inr (ci, fs))) (d : decode cc pc = .ok (.checkcast index, 3)) (kk : Y X S K A kc kn bl (pc + 3) lv (.ref a :: st)) : Y X S K A kc kn bl pc lv (.ref a :: st) := by
  obtain ⟨p, l, e, R, s, m, args, below, meth, c, Q⟩ := X
  obtain ⟨h1, h2, h3, rfl, h5, h6, h7, h8, h9⟩ := hX
  obtain ⟨q0, g1, -⟩ := fl_at hb he
  exact fun H locs ls hP hD hS hl => va_castS h1 h2 h5 (h6 _ hw) (h7.1 ci _ hc).2 (va_recv h7 hP hc g1) d (kk H locs ls hP hD hS hl)
end YL
theorem fs_Jx4a65c_63 : FLs RJx4a65c 63 2 0 .int := ⟨RJx4a65c, TJx4a65c, 3, tyJx4a65c, "java/util/ArrayList", rfl, by decide, wl (pc5 _ (List.mem_of_getElem? (i := 179) (by decide +kernel))) rfl, wl (pc5 _ (List.mem_of_getElem? (i := 180) (by decide +kernel))) rfl, wx_Jx4a65c, tyJx4a65c_ok, nmJx4a65c, rfl, by decide +kernel⟩
theorem gc_J7_86 : GCk RJ7 86 := ⟨wl (pc5 _ (List.mem_of_getElem? (i := 208) (by decide +kernel))) rfl, wl (pc6 _ (List.mem_of_getElem? (i := 115) (by decide +kernel))) rfl, wl (pc5 _ (List.mem_of_getElem? (i := 209) (by decide +kernel))) rfl, wl (pc5 _ (List.mem_of_getElem? (i := 227) (by decide +kernel))) rfl⟩
theorem lm_J7_110 : Cond.classLink RJ7 110 oaN ∈ wall := wl (pc5 _ (List.mem_of_getElem? (i := 231) (by decide +kernel))) rfl
