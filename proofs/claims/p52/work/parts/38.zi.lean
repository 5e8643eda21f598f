-- ===== the law's judgement: a wider region, room taken =====
def LOm (X : Cx) (S : Sx) (A0 : Nat → Prop) : Prop := match X with
  | (_, l, _, _, s, _, _, _, _, _, _) => l.stackTraces = false ∧ (∀ q, Aw S q → A0 q) ∧ (∀ q : Nat, q < s.heap.size → A0 q → Aw S q) ∧ NX s ∧ NU S s s.heap
def LOk (X : Cx) (S : Sx) (A0 : Nat → Prop) (cc : ByteArray) (own : String) (nL : Nat) (rm : Room) : Prop := Ok X S cc own nL rm ∧ LOm X S A0
def VL (X : Cx) (S : Sx) (A0 : Nat → Prop) (kc kn : Nat) (w : Wd) (pc : Nat) (lv : List (Nat × Value)) (st : List Value) : Prop := match X with
  | (p, l, e, R, s, m, args, below, meth, c, Q) => ∀ (H : Heap) (locs : List Loc) (ls : Array Slot), va_P S.1 vwCl (wsOf S w) H → va_S A0 s.heap H locs → lv_has ls c.maxLocals lv → W p l e R s m args below meth c H locs kc kn Q (F0 m pc ls st)
def Xtab (X : Cx) (hh : List (Nat × Nat × Nat × Nat)) : Prop := match X with
  | (_, _, _, _, _, _, _, _, _, c, _) => c.exceptionTable.toList = tableOf hh
/-- the script lies in the heap, outside of the region -/
def Xscr (X : Cx) (A0 : Nat → Prop) (b n : Nat) (xs : Nat → Int32) : Prop := match X with
  | (_, _, _, _, s, _, _, _, _, _, _) => va_X b n xs s s.heap ∧ b < s.heap.size ∧ ¬ A0 b
section LROWS
variable {X : Cx} {S : Sx} {A0 : Nat → Prop} {kc kn : Nat} {cc : ByteArray} {own : String} {nL : Nat} {rm : Room} {w : Wd} {pc : Nat} {lv lv' : List (Nat × Value)} {st : List Value}
theorem VL_iadd {x y : Int32} (hX : LOk X S A0 cc own nL rm) (d : decode cc pc = .ok (.iadd, 1)) (kk : VL X S A0 kc kn w (pc + 1) lv (.int (x + y) :: st)) : VL X S A0 kc kn w pc lv (.int y :: .int x :: st) := by
  obtain ⟨p, l, e, R, s, m, args, below, meth, c, Q⟩ := X
  exact fun H locs ls hP hS hv => lv_iadd hX.1.1 hX.1.2.1 d (kk H locs ls hP hS hv)
theorem VL_isub {x y : Int32} (hX : LOk X S A0 cc own nL rm) (d : decode cc pc = .ok (.isub, 1)) (kk : VL X S A0 kc kn w (pc + 1) lv (.int (x - y) :: st)) : VL X S A0 kc kn w pc lv (.int y :: .int x :: st) := by
  obtain ⟨p, l, e, R, s, m, args, below, meth, c, Q⟩ := X
  exact fun H locs ls hP hS hv => lv_isub hX.1.1 hX.1.2.1 d (kk H locs ls hP hS hv)
theorem VL_iand {x y : Int32} (hX : LOk X S A0 cc own nL rm) (d : decode cc pc = .ok (.iand, 1)) (kk : VL X S A0 kc kn w (pc + 1) lv (.int (x &&& y) :: st)) : VL X S A0 kc kn w pc lv (.int y :: .int x :: st) := by
  obtain ⟨p, l, e, R, s, m, args, below, meth, c, Q⟩ := X
  exact fun H locs ls hP hS hv => lv_iand hX.1.1 hX.1.2.1 d (kk H locs ls hP hS hv)
theorem VL_lcmp {x y : Int64} (hX : LOk X S A0 cc own nL rm) (d : decode cc pc = .ok (.lcmp, 1)) (kk : VL X S A0 kc kn w (pc + 1) lv (.int (lg_cmp x y) :: st)) : VL X S A0 kc kn w pc lv (.long y :: .long x :: st) := by
  obtain ⟨p, l, e, R, s, m, args, below, meth, c, Q⟩ := X
  exact fun H locs ls hP hS hv => W.lcmp hX.1.1 hX.1.2.1 d (kk H locs ls hP hS hv)
theorem VL_i2l {x : Int32} (hX : LOk X S A0 cc own nL rm) (d : decode cc pc = .ok (.i2l, 1)) (kk : VL X S A0 kc kn w (pc + 1) lv (.long x.toInt64 :: st)) : VL X S A0 kc kn w pc lv (.int x :: st) := by
  obtain ⟨p, l, e, R, s, m, args, below, meth, c, Q⟩ := X
  exact fun H locs ls hP hS hv => lv_i2l hX.1.1 hX.1.2.1 d rfl (kk H locs ls hP hS hv)
theorem VL_iconst {n : Int} {v : Int32} (hX : LOk X S A0 cc own nL rm) (d : decode cc pc = .ok (.iconst n, 1)) (hv0 : Int32.ofInt n = v) (kk : VL X S A0 kc kn w (pc + 1) lv (.int v :: st)) : VL X S A0 kc kn w pc lv (st) := by
  obtain ⟨p, l, e, R, s, m, args, below, meth, c, Q⟩ := X
  exact fun H locs ls hP hS hv => lv_iconst hX.1.1 hX.1.2.1 d hv0 (kk H locs ls hP hS hv)
theorem VL_bipush {n : Int} {v : Int32} (hX : LOk X S A0 cc own nL rm) (d : decode cc pc = .ok (.bipush n, 2)) (hv0 : (Int8.ofInt n).toInt32 = v) (kk : VL X S A0 kc kn w (pc + 2) lv (.int v :: st)) : VL X S A0 kc kn w pc lv (st) := by
  obtain ⟨p, l, e, R, s, m, args, below, meth, c, Q⟩ := X
  exact fun H locs ls hP hS hv => lv_bipush hX.1.1 hX.1.2.1 d hv0 (kk H locs ls hP hS hv)
theorem VL_if_eq {x : Int32} {off : Int} {tgt : Nat} (hX : LOk X S A0 cc own nL rm) (d : decode cc pc = .ok (.ifCond .eq off, 3)) (ht : (pc : Int) + off = (tgt : Int)) (kt : x = 0 → VL X S A0 kc kn w tgt lv st) (kf : ¬ x = 0 → VL X S A0 kc kn w (pc + 3) lv st) : VL X S A0 kc kn w pc lv (.int x :: st) := by
  obtain ⟨p, l, e, R, s, m, args, below, meth, c, Q⟩ := X
  exact fun H locs ls hP hS hv => lv_if_eq hX.1.1 hX.1.2.1 d ht (fun h => kt h H locs ls hP hS hv) (fun h => kf h H locs ls hP hS hv)
theorem VL_if_ne {x : Int32} {off : Int} {tgt : Nat} (hX : LOk X S A0 cc own nL rm) (d : decode cc pc = .ok (.ifCond .ne off, 3)) (ht : (pc : Int) + off = (tgt : Int)) (kt : ¬ x = 0 → VL X S A0 kc kn w tgt lv st) (kf : x = 0 → VL X S A0 kc kn w (pc + 3) lv st) : VL X S A0 kc kn w pc lv (.int x :: st) := by
  obtain ⟨p, l, e, R, s, m, args, below, meth, c, Q⟩ := X
  exact fun H locs ls hP hS hv => lv_if_ne hX.1.1 hX.1.2.1 d ht (fun h => kt h H locs ls hP hS hv) (fun h => kf h H locs ls hP hS hv)
theorem VL_icmp_eq {x y : Int32} {off : Int} {tgt : Nat} (hX : LOk X S A0 cc own nL rm) (d : decode cc pc = .ok (.if_icmp .eq off, 3)) (ht : (pc : Int) + off = (tgt : Int)) (kt : x = y → VL X S A0 kc kn w tgt lv st) (kf : ¬ x = y → VL X S A0 kc kn w (pc + 3) lv st) : VL X S A0 kc kn w pc lv (.int y :: .int x :: st) := by
  obtain ⟨p, l, e, R, s, m, args, below, meth, c, Q⟩ := X
  exact fun H locs ls hP hS hv => lv_icmp_eq hX.1.1 hX.1.2.1 d ht (fun h => kt h H locs ls hP hS hv) (fun h => kf h H locs ls hP hS hv)
theorem VL_icmp_gt {x y : Int32} {off : Int} {tgt : Nat} (hX : LOk X S A0 cc own nL rm) (d : decode cc pc = .ok (.if_icmp .gt off, 3)) (ht : (pc : Int) + off = (tgt : Int)) (kt : y < x → VL X S A0 kc kn w tgt lv st) (kf : ¬ y < x → VL X S A0 kc kn w (pc + 3) lv st) : VL X S A0 kc kn w pc lv (.int y :: .int x :: st) := by
  obtain ⟨p, l, e, R, s, m, args, below, meth, c, Q⟩ := X
  exact fun H locs ls hP hS hv => lv_icmp_gt hX.1.1 hX.1.2.1 d ht (fun h => kt h H locs ls hP hS hv) (fun h => kf h H locs ls hP hS hv)
theorem VL_sub (ks : List Nat) (hl : lv_pick lv ks = lv') (k : VL X S A0 kc kn w pc lv' st) : VL X S A0 kc kn w pc lv st := by
  obtain ⟨p, l, e, R, s, m, args, below, meth, c, Q⟩ := X
  exact fun H locs ls hP hS hv => k H locs ls hP hS (lv_sub hv ks hl)
theorem VL_iload_n {k : Fin 4} {x : Int32} (hX : LOk X S A0 cc own nL rm) (d : decode cc pc = .ok (.iload_n k, 1)) (j : Nat) (hj : lv[j]? = some ((k : Nat), .int x)) (kk : VL X S A0 kc kn w (pc + 1) lv (.int x :: st)) : VL X S A0 kc kn w pc lv st := by
  obtain ⟨p, l, e, R, s, m, args, below, meth, c, Q⟩ := X
  exact fun H locs ls hP hS hv => lv_iload_n hX.1.1 hX.1.2.1 d rfl (lv_at hv j hj) (kk H locs ls hP hS hv)
theorem VL_iload {i : Nat} {x : Int32} (hX : LOk X S A0 cc own nL rm) (d : decode cc pc = .ok (.iload i, 2)) (j : Nat) (hj : lv[j]? = some (i, .int x)) (kk : VL X S A0 kc kn w (pc + 2) lv (.int x :: st)) : VL X S A0 kc kn w pc lv st := by
  obtain ⟨p, l, e, R, s, m, args, below, meth, c, Q⟩ := X
  exact fun H locs ls hP hS hv => lv_iload hX.1.1 hX.1.2.1 d (lv_at hv j hj) (kk H locs ls hP hS hv)
theorem VL_lload_n {k : Fin 4} {x : Int64} (hX : LOk X S A0 cc own nL rm) (d : decode cc pc = .ok (.lload_n k, 1)) (j : Nat) (hj : lv[j]? = some ((k : Nat), .long x)) (kk : VL X S A0 kc kn w (pc + 1) lv (.long x :: st)) : VL X S A0 kc kn w pc lv st := by
  obtain ⟨p, l, e, R, s, m, args, below, meth, c, Q⟩ := X
  exact fun H locs ls hP hS hv => lv_lload_n hX.1.1 hX.1.2.1 d rfl (lv_at hv j hj) (kk H locs ls hP hS hv)
theorem VL_lload {i : Nat} {x : Int64} (hX : LOk X S A0 cc own nL rm) (d : decode cc pc = .ok (.lload i, 2)) (j : Nat) (hj : lv[j]? = some (i, .long x)) (kk : VL X S A0 kc kn w (pc + 2) lv (.long x :: st)) : VL X S A0 kc kn w pc lv st := by
  obtain ⟨p, l, e, R, s, m, args, below, meth, c, Q⟩ := X
  exact fun H locs ls hP hS hv => lv_lload hX.1.1 hX.1.2.1 d (lv_at hv j hj) (kk H locs ls hP hS hv)
theorem VL_aload_n {k : Fin 4} {x : Nat} (hX : LOk X S A0 cc own nL rm) (d : decode cc pc = .ok (.aload_n k, 1)) (j : Nat) (hj : lv[j]? = some ((k : Nat), .ref x)) (kk : VL X S A0 kc kn w (pc + 1) lv (.ref x :: st)) : VL X S A0 kc kn w pc lv st := by
  obtain ⟨p, l, e, R, s, m, args, below, meth, c, Q⟩ := X
  exact fun H locs ls hP hS hv => lv_aload_n hX.1.1 hX.1.2.1 d rfl (lv_at hv j hj) (kk H locs ls hP hS hv)
theorem VL_aload {i : Nat} {x : Nat} (hX : LOk X S A0 cc own nL rm) (d : decode cc pc = .ok (.aload i, 2)) (j : Nat) (hj : lv[j]? = some (i, .ref x)) (kk : VL X S A0 kc kn w (pc + 2) lv (.ref x :: st)) : VL X S A0 kc kn w pc lv st := by
  obtain ⟨p, l, e, R, s, m, args, below, meth, c, Q⟩ := X
  exact fun H locs ls hP hS hv => lv_aload hX.1.1 hX.1.2.1 d (lv_at hv j hj) (kk H locs ls hP hS hv)
theorem VL_istore_n {k : Fin 4} {x : Int32} (hX : LOk X S A0 cc own nL rm) (d : decode cc pc = .ok (.istore_n k, 1)) (hn : (k : Nat) < nL) (hl : ((k : Nat), Value.int x) :: lv.filter (fun q => !(q.1 == (k : Nat)) && !(q.1 + 1 == (k : Nat) && q.2.category == 2)) = lv') (kk : VL X S A0 kc kn w (pc + 1) lv' st) : VL X S A0 kc kn w pc lv (.int x :: st) := by
  obtain ⟨p, l, e, R, s, m, args, below, meth, c, Q⟩ := X
  obtain ⟨h1, h2, rfl, -⟩ := hX.1
  exact fun H locs ls hP hS hv => lv_istore_n h1 h2 d rfl hv hn hl (fun ls' hv' => kk H locs ls' hP hS hv')
theorem VL_istore {i : Nat} {x : Int32} (hX : LOk X S A0 cc own nL rm) (d : decode cc pc = .ok (.istore i, 2)) (hn : i < nL) (hl : (i, Value.int x) :: lv.filter (fun q => !(q.1 == i) && !(q.1 + 1 == i && q.2.category == 2)) = lv') (kk : VL X S A0 kc kn w (pc + 2) lv' st) : VL X S A0 kc kn w pc lv (.int x :: st) := by
  obtain ⟨p, l, e, R, s, m, args, below, meth, c, Q⟩ := X
  obtain ⟨h1, h2, rfl, -⟩ := hX.1
  exact fun H locs ls hP hS hv => lv_istore h1 h2 d hv hn hl (fun ls' hv' => kk H locs ls' hP hS hv')
theorem VL_lstore_n {k : Fin 4} {x : Int64} (hX : LOk X S A0 cc own nL rm) (d : decode cc pc = .ok (.lstore_n k, 1)) (hn : (k : Nat) + 1 < nL) (hl : ((k : Nat), Value.long x) :: lv.filter (fun q => !(q.1 == (k : Nat)) && (!(q.1 == (k : Nat) + 1) && !(q.1 + 1 == (k : Nat) && q.2.category == 2))) = lv') (kk : VL X S A0 kc kn w (pc + 1) lv' st) : VL X S A0 kc kn w pc lv (.long x :: st) := by
  obtain ⟨p, l, e, R, s, m, args, below, meth, c, Q⟩ := X
  obtain ⟨h1, h2, rfl, -⟩ := hX.1
  exact fun H locs ls hP hS hv => lv_lstore_n h1 h2 d rfl hv hn hl (fun ls' hv' => kk H locs ls' hP hS hv')
theorem VL_lstore {i : Nat} {x : Int64} (hX : LOk X S A0 cc own nL rm) (d : decode cc pc = .ok (.lstore i, 2)) (hn : i + 1 < nL) (hl : (i, Value.long x) :: lv.filter (fun q => !(q.1 == i) && (!(q.1 == i + 1) && !(q.1 + 1 == i && q.2.category == 2))) = lv') (kk : VL X S A0 kc kn w (pc + 2) lv' st) : VL X S A0 kc kn w pc lv (.long x :: st) := by
  obtain ⟨p, l, e, R, s, m, args, below, meth, c, Q⟩ := X
  obtain ⟨h1, h2, rfl, -⟩ := hX.1
  exact fun H locs ls hP hS hv => lv_lstore h1 h2 d hv hn hl (fun ls' hv' => kk H locs ls' hP hS hv')
theorem VL_astore_n {k : Fin 4} {x : Nat} (hX : LOk X S A0 cc own nL rm) (d : decode cc pc = .ok (.astore_n k, 1)) (hn : (k : Nat) < nL) (hl : ((k : Nat), Value.ref x) :: lv.filter (fun q => !(q.1 == (k : Nat)) && !(q.1 + 1 == (k : Nat) && q.2.category == 2)) = lv') (kk : VL X S A0 kc kn w (pc + 1) lv' st) : VL X S A0 kc kn w pc lv (.ref x :: st) := by
  obtain ⟨p, l, e, R, s, m, args, below, meth, c, Q⟩ := X
  obtain ⟨h1, h2, rfl, -⟩ := hX.1
  exact fun H locs ls hP hS hv => lv_astore_n h1 h2 d rfl hv hn hl (fun ls' hv' => kk H locs ls' hP hS hv')
theorem VL_astore {i : Nat} {x : Nat} (hX : LOk X S A0 cc own nL rm) (d : decode cc pc = .ok (.astore i, 2)) (hn : i < nL) (hl : (i, Value.ref x) :: lv.filter (fun q => !(q.1 == i) && !(q.1 + 1 == i && q.2.category == 2)) = lv') (kk : VL X S A0 kc kn w (pc + 2) lv' st) : VL X S A0 kc kn w pc lv (.ref x :: st) := by
  obtain ⟨p, l, e, R, s, m, args, below, meth, c, Q⟩ := X
  obtain ⟨h1, h2, rfl, -⟩ := hX.1
  exact fun H locs ls hP hS hv => lv_astore h1 h2 d hv hn hl (fun ls' hv' => kk H locs ls' hP hS hv')
theorem VL_iinc {i j : Nat} {n : Int} {x v : Int32} (hX : LOk X S A0 cc own nL rm) (d : decode cc pc = .ok (.iinc i n, 3)) (hj : lv[j]? = some (i, .int x)) (hn : i < nL) (hv0 : x + Int32.ofInt n = v) (hl : (i, Value.int v) :: lv.filter (fun q => !(q.1 == i) && !(q.1 + 1 == i && q.2.category == 2)) = lv') (kk : VL X S A0 kc kn w (pc + 3) lv' st) : VL X S A0 kc kn w pc lv st := by
  obtain ⟨p, l, e, R, s, m, args, below, meth, c, Q⟩ := X
  obtain ⟨h1, h2, rfl, -⟩ := hX.1
  exact fun H locs ls hP hS hv => lv_iinc h1 h2 d hv hj hv0 hn hl (fun ls' hv' => kk H locs ls' hP hS hv')
theorem VL_goto {off : Int} {tgt : Nat} (hX : LOk X S A0 cc own nL rm) (d : decode cc pc = .ok (.goto off, 3)) (ht : (pc : Int) + off = (tgt : Int)) (kk : VL X S A0 kc kn w tgt lv st) : VL X S A0 kc kn w pc lv st := by
  obtain ⟨p, l, e, R, s, m, args, below, meth, c, Q⟩ := X
  exact fun H locs ls hP hS hv => lv_goto hX.1.1 hX.1.2.1 d ht (kk H locs ls hP hS hv)
theorem VL_tableIn {dflt lo hi : Int} {offs : Array Int} {len : Nat} {x : Int32} {off : Int} {tgt : Nat} (hX : LOk X S A0 cc own nL rm) (d : decode cc pc = .ok (.tableswitch dflt lo hi offs, len)) (h1 : ¬ x.toInt < lo) (h2 : ¬ hi < x.toInt) (ho : offs[(x.toInt - lo).toNat]? = some off) (ht : (pc : Int) + off = (tgt : Int)) (kk : VL X S A0 kc kn w tgt lv st) : VL X S A0 kc kn w pc lv (.int x :: st) := by
  obtain ⟨p, l, e, R, s, m, args, below, meth, c, Q⟩ := X
  exact fun H locs ls hP hS hv => lv_tableIn hX.1.1 hX.1.2.1 d h1 h2 ho ht (kk H locs ls hP hS hv)
theorem VL_tableOut {dflt lo hi : Int} {offs : Array Int} {len : Nat} {x : Int32} {tgt : Nat} (hX : LOk X S A0 cc own nL rm) (d : decode cc pc = .ok (.tableswitch dflt lo hi offs, len)) (h : x.toInt < lo ∨ hi < x.toInt) (ht : (pc : Int) + dflt = (tgt : Int)) (kk : VL X S A0 kc kn w tgt lv st) : VL X S A0 kc kn w pc lv (.int x :: st) := by
  obtain ⟨p, l, e, R, s, m, args, below, meth, c, Q⟩ := X
  exact fun H locs ls hP hS hv => lv_tableOut hX.1.1 hX.1.2.1 d h ht (kk H locs ls hP hS hv)
theorem VL_lald {i n : Nat} {j : Int32} (hX : LOk X S A0 cc own nL rm) (ht : (tab S)[i]? = some (cJ S n)) (hin : inB j n = true) (d : decode cc pc = .ok (.laload, 1)) (kk : VL X S A0 kc kn w (pc + 1) lv (.long (gJ w i j.toNatClampNeg) :: st)) : VL X S A0 kc kn w pc lv (.int j :: rf S i :: st) := by
  obtain ⟨p, l, e, R, s, m, args, below, meth, c, Q⟩ := X
  obtain ⟨h1, h2, h3, h4, h5, h6, h7⟩ := hX.1
  exact fun H locs ls hP hS hl => va_lald h1 h2 h7.1 hP i 1 (wsOf_get ht) rfl (inB_in hin) d (kk H locs ls hP hS hl)
theorem VL_last {i n : Nat} {j : Int32} {x : Int64} (hX : LOk X S A0 cc own nL rm) (ht : (tab S)[i]? = some (cJ S n)) (hin : inB j n = true) (d : decode cc pc = .ok (.lastore, 1)) (kk : ∀ w2, w2 = sJ w i j.toNatClampNeg x → VL X S A0 kc kn w2 (pc + 1) lv st) : VL X S A0 kc kn w pc lv (.long x :: .int j :: rf S i :: st) := by
  obtain ⟨p, l, e, R, s, m, args, below, meth, c, Q⟩ := X
  obtain ⟨⟨h1, h2, h3, h4, h5, h6, h7⟩, g1, g2, g3, g4, g5⟩ := hX
  exact fun H locs ls hP hS hl => va_last h1 h2 h7.1 hP ⟨(wsOf_D h7.2.1).1, fun k q hk => g2 _ ((wsOf_D h7.2.1).2 k q hk)⟩ hS i 1 (wsOf_get ht) rfl (inB_in hin) d (fun H1 locs1 hP1 _ hS1 => kk _ rfl H1 locs1 ls (by rw [← wsOf_sJ ht rfl]; exact hP1) hS1 hl)
theorem VL_sld {b n : Nat} {xs : Nat → Int32} {j : Int32} (hX : LOk X S A0 cc own nL rm) (hs : Xscr X A0 b n xs) (hin : inB j n = true) (d : decode cc pc = .ok (.iaload, 1)) (kk : VL X S A0 kc kn w (pc + 1) lv (.int (xs j.toNatClampNeg) :: st)) : VL X S A0 kc kn w pc lv (.int j :: .ref b :: st) := by
  obtain ⟨p, l, e, R, s, m, args, below, meth, c, Q⟩ := X
  exact fun H locs ls hP hS hv => va_sld hX.1.1 hX.1.2.1 hs.1 hs.2.1 hs.2.2 hS (inB_in hin) d (kk H locs ls hP hS hv)
theorem VL_slen {b n : Nat} {xs : Nat → Int32} {v : Int32} (hX : LOk X S A0 cc own nL rm) (hs : Xscr X A0 b n xs) (hv0 : Int32.ofNat n = v) (d : decode cc pc = .ok (.arraylength, 1)) (kk : VL X S A0 kc kn w (pc + 1) lv (.int v :: st)) : VL X S A0 kc kn w pc lv (.ref b :: st) := by
  subst hv0
  obtain ⟨p, l, e, R, s, m, args, below, meth, c, Q⟩ := X
  exact fun H locs ls hP hS hv => va_slen hX.1.1 hX.1.2.1 hs.1 hs.2.1 hs.2.2 hS d (kk H locs ls hP hS hv)
theorem VL_callVi {index maxL n : Nat} {i ci : Nat} {C : String} {T : u_T} {N : Nat} {fs : (Nat → Int32) → (Nat → Int64) → (Nat → Nat) → List Value} {y : MethodName} {bytes : ByteArray} {ret : Option FieldType} {rmc : Room} {rest As : List Value} {v : Int32} {w2 : Wd} (hX : LOk X S A0 cc own nL rm) (hk : MVk own index C y bytes maxL ret) (hy : MNk y C n) (hM : ∀ l, Met l y (wsg y bytes maxL ret) rmc (PC S w (rf S i :: As)) (QCi S (v, w2)) 0 0 (Aw S)) (ht : (tab S)[i]? = some (cO ci fs)) (hc : vwCl[ci]? = some (C, T, N)) (hR : RMk rmc rm maxL) (hn : As.length = n) (hst : st = As.reverse ++ rf S i :: rest) (hW : (rest.map fun v => v.category).sum ≤ 8) (d : decode cc pc = .ok (.invokevirtual index, 3)) (hkc : kc ≤ rm.cells ∧ kn ≤ rm.slots) (kk : VL X S A0 kc kn w2 (pc + 3) lv (.int v :: rest)) : VL X S A0 kc kn w pc lv st := by
  subst hst
  obtain ⟨p, l, e, R, s, m, args, below, meth, c, Q⟩ := X
  obtain ⟨⟨h1, h2, h3, rfl, h5, h6, h7⟩, g1, g2, g3, g4, g5⟩ := hX
  obtain ⟨r1, r2, r3, r4⟩ := hR
  obtain ⟨y1, y2, y3, y4⟩ := hy
  intro H locs ls hP hS hl
  refine va_calli (va_runV (As := As) (rest := rest) ⟨h1, h2, h3, h5, h6⟩ (hM l) (cwV n h6 (wsV_in hk) rfl r1 r2 ⟨y1, y2, y3, y4⟩ ⟨r3, r4⟩) ⟨PC.blind, va_recv h7.1 hP hc (wsOf_get ht), fun U hU hW => ⟨rfl, by rw [hU]; exact hP, h7.to hW (fun q a b => by rw [hU]; exact hS.2.1 q a (fun z => b (g3 q a z)))⟩⟩ rfl hn (hl.1.trans h3) rfl (lv_room hW) d ⟨hkc.1, hkc.2⟩) hS (fun q _ h => g2 q h) (fun q h => g2 q h) (fun r u t H1 locs1 ht2 hvm hp hb hz hk2 hS1 => ?_)
  cases hp
  exact kk H1 locs1 ls (by rw [← ht2]; exact hb) hS1 hl
theorem VL_callVl {index maxL n : Nat} {i ci : Nat} {C : String} {T : u_T} {N : Nat} {fs : (Nat → Int32) → (Nat → Int64) → (Nat → Nat) → List Value} {y : MethodName} {bytes : ByteArray} {ret : Option FieldType} {rmc : Room} {rest As : List Value} {v : Int64} {w2 : Wd} (hX : LOk X S A0 cc own nL rm) (hk : MVk own index C y bytes maxL ret) (hy : MNk y C n) (hM : ∀ l, Met l y (wsg y bytes maxL ret) rmc (PC S w (rf S i :: As)) (QCl S (v, w2)) 0 0 (Aw S)) (ht : (tab S)[i]? = some (cO ci fs)) (hc : vwCl[ci]? = some (C, T, N)) (hR : RMk rmc rm maxL) (hn : As.length = n) (hst : st = As.reverse ++ rf S i :: rest) (hW : (rest.map fun v => v.category).sum ≤ 8) (d : decode cc pc = .ok (.invokevirtual index, 3)) (hkc : kc ≤ rm.cells ∧ kn ≤ rm.slots) (kk : VL X S A0 kc kn w2 (pc + 3) lv (.long v :: rest)) : VL X S A0 kc kn w pc lv st := by
  subst hst
  obtain ⟨p, l, e, R, s, m, args, below, meth, c, Q⟩ := X
  obtain ⟨⟨h1, h2, h3, rfl, h5, h6, h7⟩, g1, g2, g3, g4, g5⟩ := hX
  obtain ⟨r1, r2, r3, r4⟩ := hR
  obtain ⟨y1, y2, y3, y4⟩ := hy
  intro H locs ls hP hS hl
  refine va_calll (va_runV (As := As) (rest := rest) ⟨h1, h2, h3, h5, h6⟩ (hM l) (cwV n h6 (wsV_in hk) rfl r1 r2 ⟨y1, y2, y3, y4⟩ ⟨r3, r4⟩) ⟨PC.blind, va_recv h7.1 hP hc (wsOf_get ht), fun U hU hW => ⟨rfl, by rw [hU]; exact hP, h7.to hW (fun q a b => by rw [hU]; exact hS.2.1 q a (fun z => b (g3 q a z)))⟩⟩ rfl hn (hl.1.trans h3) rfl (lv_room hW) d ⟨hkc.1, hkc.2⟩) hS (fun q _ h => g2 q h) (fun q h => g2 q h) (fun r u t H1 locs1 ht2 hvm hp hb hz hk2 hS1 => ?_)
  cases hp
  exact kk H1 locs1 ls (by rw [← ht2]; exact hb) hS1 hl
theorem VL_callXi {index maxL n ic : Nat} {i ci : Nat} {C : String} {T : u_T} {N : Nat} {fs : (Nat → Int32) → (Nat → Int64) → (Nat → Nat) → List Value} {y : MethodName} {bytes : ByteArray} {ret : Option FieldType} {rmc : Room} {rest As : List Value} {o : Option Int32} {w2 : Wd} {a z hp : Nat} (hX : LOk X S A0 cc own nL rm) (hT : Xtab X [(a, z, hp, ic)]) (hk : MVk own index C y bytes maxL ret) (hy : MNk y C n) (hM : ∀ l, l.stackTraces = false → vx_Met l y (wsg y bytes maxL ret) rmc (PX S w (rf S i :: As)) (QXi S (o, w2)) (XX S (o, w2)) 1 6 (Aw S)) (ht : (tab S)[i]? = some (cO ci fs)) (hc : vwCl[ci]? = some (C, T, N)) (hR : rmc.cells = 1 ∧ rmc.slots = 6 ∧ rmc.frames + 1 ≤ rm.frames ∧ 8 + (maxL + 11) + rmc.locals ≤ rm.locals) (hn : As.length = n) (hst : st = As.reverse ++ rf S i :: rest) (hW : (rest.map fun v => v.category).sum ≤ 8) (d : decode cc pc = .ok (.invokevirtual index, 3)) (hkc : kc + 1 ≤ rm.cells ∧ kn + 6 ≤ rm.slots)
    (hcov : a ≤ pc ∧ pc < z ∧ ¬ ic = 0) (hlink : Cond.classLink own ic nsee ∈ wall) (kx : o = none → ∀ q : Nat, VL X S A0 (kc + 1) (kn + 6) w2 hp lv [.ref q]) (kk : ∀ v, o = some v → VL X S A0 (kc + 1) (kn + 6) w2 (pc + 3) lv (.int v :: rest)) : VL X S A0 kc kn w pc lv st := by
  subst hst
  obtain ⟨p, l, e, R, s, m, args, below, meth, c, Q⟩ := X
  obtain ⟨⟨h1, h2, h3, rfl, h5, h6, h7⟩, g1, g2, g3, g4, g5⟩ := hX
  obtain ⟨r1, r2, r3, r4⟩ := hR
  obtain ⟨y1, y2, y3, y4⟩ := hy
  intro H locs ls hP hS hl
  have hq : ∀ U : State, U.heap = H → ∀ q : Nat, q < s.heap.size → ¬ Aw S q → U.heap[q]? = s.heap[q]? := fun U hU q a b => by rw [hU]; exact hS.2.1 q a (fun z => b (g3 q a z))
  refine vx_calli (vx_runV (As := As) (rest := rest) ⟨h1, h2, h3, h5, h6⟩ (hM l g1) (cwV n h6 (wsV_in hk) rfl r1 r2 ⟨y1, y2, y3, y4⟩ ⟨r3, r4⟩) ⟨PX.blind, va_recv h7.1 hP hc (wsOf_get ht), fun U hU hW => ⟨rfl, by rw [hU]; exact hP, h7.to hW (hq U hU), g4.warm hW, g5.to hW (hq U hU)⟩⟩ rfl hn (hl.1.trans h3) rfl (lv_room hW) d hkc) hS (fun q _ h => g2 q h) (fun q h => g2 q h) (fun q _ h => g2 q h) (fun E ce q9 u t H1 locs1 ht2 hvm hp0 hb hz hk2 hS1 hce hcv hcl => ?_) (fun r u t H1 locs1 ht2 hvm hp0 hb hz hk2 hS1 => ?_)
  · obtain ⟨rfl, hb⟩ := hb
    obtain ⟨ho, rfl⟩ := Prod.mk.inj hp0
    exact vx_catch (name := nsee) (E := nsee) h5 [] ⟨a, z, hp, ic⟩ [] hT (fun z hz => absurd hz List.not_mem_nil) (by simp only [covers, Bool.and_eq_true, decide_eq_true_eq]; exact ⟨hcov.1, hcov.2.1⟩) hcov.2.2 (h6 _ hlink) (va_Nw.use rfl (g4 (.castable nsee nsee) (by decide +kernel))) hce hcv hcl (kx ho.symm q9 H1 locs1 ls (by rw [← ht2]; exact hb) hS1 hl)
  · obtain ⟨ho, rfl⟩ := Prod.mk.inj hp0
    exact kk r ho.symm H1 locs1 ls (by rw [← ht2]; exact hb) hS1 hl
theorem VL_callXl {index maxL n ic : Nat} {i ci : Nat} {C : String} {T : u_T} {N : Nat} {fs : (Nat → Int32) → (Nat → Int64) → (Nat → Nat) → List Value} {y : MethodName} {bytes : ByteArray} {ret : Option FieldType} {rmc : Room} {rest As : List Value} {o : Option Int64} {w2 : Wd} {a z hp : Nat} (hX : LOk X S A0 cc own nL rm) (hT : Xtab X [(a, z, hp, ic)]) (hk : MVk own index C y bytes maxL ret) (hy : MNk y C n) (hM : ∀ l, l.stackTraces = false → vx_Met l y (wsg y bytes maxL ret) rmc (PX S w (rf S i :: As)) (QXl S (o, w2)) (XX S (o, w2)) 1 6 (Aw S)) (ht : (tab S)[i]? = some (cO ci fs)) (hc : vwCl[ci]? = some (C, T, N)) (hR : rmc.cells = 1 ∧ rmc.slots = 6 ∧ rmc.frames + 1 ≤ rm.frames ∧ 8 + (maxL + 11) + rmc.locals ≤ rm.locals) (hn : As.length = n) (hst : st = As.reverse ++ rf S i :: rest) (hW : (rest.map fun v => v.category).sum ≤ 8) (d : decode cc pc = .ok (.invokevirtual index, 3)) (hkc : kc + 1 ≤ rm.cells ∧ kn + 6 ≤ rm.slots)
    (hcov : a ≤ pc ∧ pc < z ∧ ¬ ic = 0) (hlink : Cond.classLink own ic nsee ∈ wall) (kx : o = none → ∀ q : Nat, VL X S A0 (kc + 1) (kn + 6) w2 hp lv [.ref q]) (kk : ∀ v, o = some v → VL X S A0 (kc + 1) (kn + 6) w2 (pc + 3) lv (.long v :: rest)) : VL X S A0 kc kn w pc lv st := by
  subst hst
  obtain ⟨p, l, e, R, s, m, args, below, meth, c, Q⟩ := X
  obtain ⟨⟨h1, h2, h3, rfl, h5, h6, h7⟩, g1, g2, g3, g4, g5⟩ := hX
  obtain ⟨r1, r2, r3, r4⟩ := hR
  obtain ⟨y1, y2, y3, y4⟩ := hy
  intro H locs ls hP hS hl
  have hq : ∀ U : State, U.heap = H → ∀ q : Nat, q < s.heap.size → ¬ Aw S q → U.heap[q]? = s.heap[q]? := fun U hU q a b => by rw [hU]; exact hS.2.1 q a (fun z => b (g3 q a z))
  refine vx_calll (vx_runV (As := As) (rest := rest) ⟨h1, h2, h3, h5, h6⟩ (hM l g1) (cwV n h6 (wsV_in hk) rfl r1 r2 ⟨y1, y2, y3, y4⟩ ⟨r3, r4⟩) ⟨PX.blind, va_recv h7.1 hP hc (wsOf_get ht), fun U hU hW => ⟨rfl, by rw [hU]; exact hP, h7.to hW (hq U hU), g4.warm hW, g5.to hW (hq U hU)⟩⟩ rfl hn (hl.1.trans h3) rfl (lv_room hW) d hkc) hS (fun q _ h => g2 q h) (fun q h => g2 q h) (fun q _ h => g2 q h) (fun E ce q9 u t H1 locs1 ht2 hvm hp0 hb hz hk2 hS1 hce hcv hcl => ?_) (fun r u t H1 locs1 ht2 hvm hp0 hb hz hk2 hS1 => ?_)
  · obtain ⟨rfl, hb⟩ := hb
    obtain ⟨ho, rfl⟩ := Prod.mk.inj hp0
    exact vx_catch (name := nsee) (E := nsee) h5 [] ⟨a, z, hp, ic⟩ [] hT (fun z hz => absurd hz List.not_mem_nil) (by simp only [covers, Bool.and_eq_true, decide_eq_true_eq]; exact ⟨hcov.1, hcov.2.1⟩) hcov.2.2 (h6 _ hlink) (va_Nw.use rfl (g4 (.castable nsee nsee) (by decide +kernel))) hce hcv hcl (kx ho.symm q9 H1 locs1 ls (by rw [← ht2]; exact hb) hS1 hl)
  · obtain ⟨ho, rfl⟩ := Prod.mk.inj hp0
    exact kk r ho.symm H1 locs1 ls (by rw [← ht2]; exact hb) hS1 hl
/-- a static method with a table of its own -/
def MWk (own : String) (index : Nat) (y : MethodName) (cc : ByteArray) (n : Nat) (ret : Option FieldType) (hh : List (Nat × Nat × Nat × Nat)) : Prop := Cond.methodLink own index y ∈ wall ∧ Cond.static y ∈ wall ∧ Cond.initialized y.cls ∈ wall ∧ Cond.codeWith y cc n ret hh ∈ wall
theorem wsW_in {index n : Nat} {y : MethodName} {bytes : ByteArray} {ret : Option FieldType} {hh : List (Nat × Nat × Nat × Nat)} (k : MWk own index y bytes n ret hh) : GoodIn wall (va_wsS own index y (Cond.codeWith y bytes n ret hh :: wall)) := by
  obtain ⟨k1, k2, k3, k5⟩ := k
  intro w hw
  unfold va_wsS at hw
  rcases List.mem_append.mp hw with h | h
  · simp only [List.mem_cons, List.not_mem_nil, or_false] at h
    rcases h with rfl | rfl | rfl
    · exact ⟨k1, good_of_word (wall_good k1)⟩
    · exact ⟨k2, good_of_word (wall_good k2)⟩
    · exact ⟨k3, good_of_word (wall_good k3)⟩
  · rcases List.mem_cons.mp h with rfl | h
    · exact ⟨k5, good_of_word (wall_good k5)⟩
    · exact ⟨h, good_of_word (wall_good h)⟩
theorem VL_callW {index maxL n : Nat} {y : MethodName} {bytes : ByteArray} {hh : List (Nat × Nat × Nat × Nat)} {rmc : Room} {rest As : List Value} {v : Int32} {w2 : Wd} (hX : LOk X S A0 cc own nL rm) (hk : MWk own index y bytes maxL (some .int) hh) (hy : MNk y y.cls n) (hM : ∀ l, l.stackTraces = false → Met l y (Cond.codeWith y bytes maxL (some .int) hh :: wall) rmc (PX S w As) (QCi S (v, w2)) 1 6 (Aw S)) (hR : rmc.cells = 1 ∧ rmc.slots = 6 ∧ rmc.frames + 1 ≤ rm.frames ∧ 8 + (maxL + 11) + rmc.locals ≤ rm.locals) (hn : As.length = n) (hst : st = As.reverse ++ rest) (hW : (rest.map fun v => v.category).sum ≤ 8) (d : decode cc pc = .ok (.invokestatic index, 3)) (hkc : kc + 1 ≤ rm.cells ∧ kn + 6 ≤ rm.slots) (kk : VL X S A0 (kc + 1) (kn + 6) w2 (pc + 3) lv (.int v :: rest)) : VL X S A0 kc kn w pc lv st := by
  subst hst
  obtain ⟨p, l, e, R, s, m, args, below, meth, c, Q⟩ := X
  obtain ⟨⟨h1, h2, h3, rfl, h5, h6, h7⟩, g1, g2, g3, g4, g5⟩ := hX
  obtain ⟨r1, r2, r3, r4⟩ := hR
  obtain ⟨y1, y2, y3, y4⟩ := hy
  intro H locs ls hP hS hl
  have hq : ∀ U : State, U.heap = H → ∀ q : Nat, q < s.heap.size → ¬ Aw S q → U.heap[q]? = s.heap[q]? := fun U hU q a b => by rw [hU]; exact hS.2.1 q a (fun z => b (g3 q a z))
  refine va_calli (vx_runSW (As := As) (rest := rest) ⟨h1, h2, h3, h5, h6⟩ (hM l g1) (vx_cwSW n h6 (wsW_in hk) rfl r1 r2 ⟨y2, y3, y4⟩ ⟨r3, r4⟩) ⟨PX.blind, fun U hU hW => ⟨rfl, by rw [hU]; exact hP, h7.to hW (hq U hU), g4.warm hW, g5.to hW (hq U hU)⟩⟩ rfl hn (hl.1.trans h3) rfl (lv_room hW) d hkc) hS (fun q _ h => g2 q h) (fun q h => g2 q h) (fun r u t H1 locs1 ht2 hvm hp hb hz hk2 hS1 => ?_)
  cases hp
  exact kk H1 locs1 ls (by rw [← ht2]; exact hb) hS1 hl
theorem metw {l : Launch} {y : MethodName} {maxL : Nat} {hh : List (Nat × Nat × Nat × Nat)} {vs : List Value} {r : Int32 × Wd} (hl : l.stackTraces = false) (hy : plainName y.cls = true) (hown : y.cls = own) (hn : (lg_sl vs).length ≤ maxL) (body : ∀ X : Cx, LOk X S (Aw S) cc own maxL rm → Xtab X hh → (∀ (v : Int32) (w : Wd) (pc : Nat) (lv : List (Nat × Value)), (v, w) = r → decode cc pc = .ok (.ireturn, 1) → VL X S (Aw S) 1 6 w pc lv [.int v]) → VL X S (Aw S) 0 0 w 0 (lv_args 0 vs) []) : Met l y (Cond.codeWith y cc maxL (some .int) hh :: wall) rm (PX S w vs) (QCi S r) 1 6 (Aw S) := by
  refine va_MetW (cc := cc) (maxL := maxL) (ret := (some .int)) (hh := hh) hy rfl ?_
  intro p e s m args below meth c s₁ B hml hv
  obtain ⟨rfl, hP, hw, hNX, hNU⟩ := hv
  have hx := B.exec
  have hb := B.bytes
  have hr := B.returns
  have hts := atoms_spec (ws := Cond.codeWith y cc maxL (some .int) hh :: wall) B.pre
  have htab := vx_table (x := y) B (hts _ List.mem_cons_self)
  have hf : s.vm.findClass own = some m.cls := by rw [← hown]; exact findClass_of_methodNamed B.named
  have hlocks := B.notSynchronized
  have hl0 := lv_entry vs (n := maxL) hn
  rw [lg_entry_eq]
  generalize (lg_sl vs ++ List.replicate (maxL - (lg_sl vs).length) Slot.unset).toArray = ls at hl0 ⊢
  refine body (p, l, e, rm, s, m, _, below, meth, c, MQ below (QCi S r) vs.toArray s 1 6 (Aw S)) ⟨⟨hx, hb, hml, rfl, hf, fun w h => hts w (List.mem_cons_of_mem _ h), hw⟩, hl, fun _ h => h, fun _ _ h => h, hNX, hNU⟩ htab ?_ s.heap [] ls hP va_S.rf (by rw [hml]; exact hl0)
  intro v w2 pc lv e0 d H locs ls2 hP2 hS2 hl2
  exact W.iret hx hb hr (fun t ht hW => ⟨⟨v, w2, rfl, e0, by show va_P _ _ _ _; rw [ht]; exact hP2⟩, hS2.F ht⟩) hS2.2.2 d
end LROWS
