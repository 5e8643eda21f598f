-- ===== contracts whose world is told by what it keeps =====
abbrev UW : Type := (Nat → Nat) × Wd × Tw
def QEi (S : Sx) (bl : Bk) (v : Int32) (Φ : UW → Prop) (blk : UW → Bk) (sz : Nat) : Array Value → State → Outcome → State → Prop := va_Qi (S := UW) (fun r u => r = v ∧ Φ u) (fun u t => va_P S.1 vwCl (blk u).flatten t.heap ∧ va_D (va_A bl.flatten sz) (blk u).flatten) (va_A bl.flatten sz)
def QEq (S : Sx) (bl : Bk) (ro : UW → Option Nat) (Φ : UW → Prop) (blk : UW → Bk) (sz : Nat) : Array Value → State → Outcome → State → Prop := va_Qq (S := UW) (fun r u => r = ro u ∧ Φ u) (fun u t => va_P S.1 vwCl (blk u).flatten t.heap ∧ va_D (va_A bl.flatten sz) (blk u).flatten) (va_A bl.flatten sz)
def YHEi (X : Cx) (S : Sx) (K : Kx) (A : Nat → Prop) (cc : ByteArray) (ty : FieldType) (v : Int32) (Φ : UW → Prop) (blk : UW → Bk) (mc ms : Nat) : Prop := ∀ (u : UW) (pc : Nat) (lv : List (Nat × Value)), Φ u → narrow ty (.int v) = .int v → decode cc pc = .ok (.ireturn, 1) → Y X S K A mc ms (blk u) pc lv [.int v]
def YHEq (X : Cx) (S : Sx) (K : Kx) (A : Nat → Prop) (cc : ByteArray) (ro : UW → Option Nat) (Φ : UW → Prop) (blk : UW → Bk) (mc ms : Nat) : Prop := ∀ (u : UW) (pc : Nat) (lv : List (Nat × Value)), Φ u → decode cc pc = .ok (.areturn, 1) → Y X S K A mc ms (blk u) pc lv [va_rf (ro u)]
section YE1
variable {X : Cx} {S : Sx} {K : Kx} {A : Nat → Prop} {E E' : Ex} {kc kn : Nat} {bl sub rst : Bk} {cc : ByteArray} {own : String} {nL : Nat} {rm : Room} {pc : Nat} {lv lv' : List (Nat × Value)} {st rest As : List Value} {mc ms : Nat}
theorem Y_resEi {v : Int32} {Φ : UW → Prop} {blk : UW → Bk} (hX : Yok X S K A cc own nL rm) (hbl : bl = sub ++ rst) (hr : YRun X S A kc kn bl pc lv st rest mc ms sub (QEi S sub v Φ blk)) (kk : ∀ u, Φ u → Y X S K A (kc + mc) (kn + ms) (blk u ++ rst) (pc + 3) lv (.int v :: rest)) : Y X S K A kc kn bl pc lv st := by
  obtain ⟨p, l, e, R, s, m, args, below, meth, c, Q⟩ := X
  intro H locs ls hP hD hS hl
  obtain ⟨a, hra⟩ := hr H locs ls hP hD hS hl
  subst hbl
  rw [List.flatten_append] at hP hD
  have hF := vaA_in hD hS hX.2.2.2.2.2.2.2.1
  refine va_calli hra hS (fun q _ h => hF q h) hF (fun r u t H1 locs1 ht hvm hp hB hz hk1 hS1 => ?_)
  obtain ⟨rfl, hp2⟩ := hp
  obtain ⟨hP1, hD1⟩ := hB
  rw [ht] at hP1
  obtain ⟨hP2, hD2⟩ := va_mid2 hP hD hk1 hF hP1 hD1
  exact kk u hp2 H1 locs1 ls (by rw [List.flatten_append]; exact hP2) (by rw [List.flatten_append]; exact hD2) hS1 hl
theorem Y_resEq {ro : UW → Option Nat} {Φ : UW → Prop} {blk : UW → Bk} (hX : Yok X S K A cc own nL rm) (hbl : bl = sub ++ rst) (hr : YRun X S A kc kn bl pc lv st rest mc ms sub (QEq S sub ro Φ blk)) (kk : ∀ u, Φ u → Y X S K A (kc + mc) (kn + ms) (blk u ++ rst) (pc + 3) lv (va_rf (ro u) :: rest)) : Y X S K A kc kn bl pc lv st := by
  obtain ⟨p, l, e, R, s, m, args, below, meth, c, Q⟩ := X
  intro H locs ls hP hD hS hl
  obtain ⟨a, hra⟩ := hr H locs ls hP hD hS hl
  subst hbl
  rw [List.flatten_append] at hP hD
  have hF := vaA_in hD hS hX.2.2.2.2.2.2.2.1
  refine va_callq hra hS (fun q _ h => hF q h) hF (fun r u t H1 locs1 ht hvm hp hB hz hk1 hS1 => ?_)
  obtain ⟨rfl, hp2⟩ := hp
  obtain ⟨hP1, hD1⟩ := hB
  rw [ht] at hP1
  obtain ⟨hP2, hD2⟩ := va_mid2 hP hD hk1 hF hP1 hD1
  exact kk u hp2 H1 locs1 ls (by rw [List.flatten_append]; exact hP2) (by rw [List.flatten_append]; exact hD2) hS1 hl
end YE1
section YEM
variable {S : Sx} {K : Kx} {E : Ex} {bl : Bk} {cc : ByteArray} {own : String} {rm : Room} {y : MethodName} {maxL mc ms : Nat} {vs : List Value} {Φ : UW → Prop} {blk : UW → Bk}
theorem y_metEi {ty : FieldType} {v : Int32} (hy : plainFor y = true) (hown : y.cls = own) (hn : (lg_sl vs).length ≤ maxL) (hE : Stb E) (walk : ∀ (X : Cx) (A : Nat → Prop), Yok X S K A cc own maxL rm → YE X A E → YIn X y → YHEi X S K A cc ty v Φ blk mc ms → Y X S K A 0 0 bl 0 (lv_args 0 vs) []) : CY S K E y cc maxL (some ty) rm vs bl (QEi S bl v Φ blk) mc ms := by
  intro l sz hst9
  refine y_ofW (cc := cc) (maxL := maxL) (ret := (some ty)) hy rfl ?_
  intro p e s m args below meth c s₁ B hml hv
  obtain ⟨rfl, hsz, hP, hD, hK, hO, hEs⟩ := hv
  subst hsz
  have hx := B.exec
  have hb := B.bytes
  have hr := B.returns
  have hts := atoms_spec (ws := wsg y cc maxL (some ty)) B.pre
  have hf : s.vm.findClass own = some m.cls := by rw [← hown]; exact findClass_of_methodNamed B.named
  have hin : meth.name = y.name := (name_of_methodNamed B.named B.method).1
  have hlocks := B.notSynchronized
  have hl := lv_entry vs (n := maxL) hn
  rw [lg_entry_eq]
  generalize (lg_sl vs ++ List.replicate (maxL - (lg_sl vs).length) Slot.unset).toArray = ls at hl ⊢
  refine walk (p, l, e, rm, s, m, _, below, meth, c, MQ below (QEi S bl v Φ blk s.heap.size) vs.toArray s mc ms (va_A bl.flatten s.heap.size)) (va_A bl.flatten s.heap.size) ⟨hx, hb, hml, rfl, hf, fun w h => hts w (List.mem_cons_of_mem _ h), hK, fun q h => .inr h, hO⟩ ⟨hE, hEs, hst9⟩ hin ?_ s.heap [] ls hP hD va_S.rf (by rw [hml]; exact hl)
  intro u pc lv hΦ hnar d H locs ls2 hP2 hD2 hS2 hl2
  exact W.zret (ty := ty) hx hb hr hnar (fun t ht hW => ⟨⟨v, u, rfl, ⟨rfl, hΦ⟩, ⟨by rw [ht]; exact hP2, hD2⟩⟩, hS2.F ht⟩) hS2.2.2 d
theorem y_metEq {ty : FieldType} {ro : UW → Option Nat} (hrt : (∃ n, ty = .object n) ∨ ∃ t, ty = .array t) (hy : plainFor y = true) (hown : y.cls = own) (hn : (lg_sl vs).length ≤ maxL) (hE : Stb E) (walk : ∀ (X : Cx) (A : Nat → Prop), Yok X S K A cc own maxL rm → YE X A E → YIn X y → YHEq X S K A cc ro Φ blk mc ms → Y X S K A 0 0 bl 0 (lv_args 0 vs) []) : CY S K E y cc maxL (some ty) rm vs bl (QEq S bl ro Φ blk) mc ms := by
  intro l sz hst9
  refine y_ofW (cc := cc) (maxL := maxL) (ret := (some ty)) hy rfl ?_
  intro p e s m args below meth c s₁ B hml hv
  obtain ⟨rfl, hsz, hP, hD, hK, hO, hEs⟩ := hv
  subst hsz
  have hx := B.exec
  have hb := B.bytes
  have hr := B.returns
  have hts := atoms_spec (ws := wsg y cc maxL (some ty)) B.pre
  have hf : s.vm.findClass own = some m.cls := by rw [← hown]; exact findClass_of_methodNamed B.named
  have hin : meth.name = y.name := (name_of_methodNamed B.named B.method).1
  have hlocks := B.notSynchronized
  have hl := lv_entry vs (n := maxL) hn
  rw [lg_entry_eq]
  generalize (lg_sl vs ++ List.replicate (maxL - (lg_sl vs).length) Slot.unset).toArray = ls at hl ⊢
  refine walk (p, l, e, rm, s, m, _, below, meth, c, MQ below (QEq S bl ro Φ blk s.heap.size) vs.toArray s mc ms (va_A bl.flatten s.heap.size)) (va_A bl.flatten s.heap.size) ⟨hx, hb, hml, rfl, hf, fun w h => hts w (List.mem_cons_of_mem _ h), hK, fun q h => .inr h, hO⟩ ⟨hE, hEs, hst9⟩ hin ?_ s.heap [] ls hP hD va_S.rf (by rw [hml]; exact hl)
  intro u pc lv hΦ d H locs ls2 hP2 hD2 hS2 hl2
  exact W.aret (rt := ty) hx hb hr hrt (va_rf_or _) (fun t ht hW => ⟨⟨ro u, u, rfl, ⟨rfl, hΦ⟩, ⟨by rw [ht]; exact hP2, hD2⟩⟩, hS2.F ht⟩) hS2.2.2 d
end YEM
/-- four signs in one number -/
def pkv (x : List Int32) (k : Nat) : Nat → Int32
  | 0 => 0
  | j + 1 => ishlI (pkv x k j) 8 ||| x.getD (k + j) 0
theorem chI_id : ∀ c, c < 128 → chI (nI c) = nI c ∧ isChr (chI (nI c)) = true := by decide +kernel
theorem fit_b : ∀ c, c < 128 → fits .byte (.int (nI c)) = true := by decide +kernel
theorem shl8 {a b : Nat} (ha : a < 2 ^ 23) (hb : b < 256) : ishlI (nI a) 8 ||| nI b = nI (a * 256 + b) := by
  have e1 : ishlI (nI a) 8 = nI (a * 256) := by
    unfold ishlI
    exact pk_shlN (n := a) (8 &&& 31) 8 (by decide +kernel) (by omega)
  rw [e1, nI_or2, show a * 256 = 2 ^ 8 * a by omega, ← Nat.two_pow_add_eq_or_of_lt (i := 8) (by omega)]
theorem sgb_n {m : Nat} (hm : m < 2 ^ 31) : sgb (nI m) 0 = nI (m / 2 ^ 24 % 256) ∧ sgb (nI m) 1 = nI (m / 2 ^ 16 % 256) ∧ sgb (nI m) 2 = nI (m / 2 ^ 8 % 256) ∧ sgb (nI m) 3 = nI (m % 256) := by
  have key : ∀ (s : Int32) (k : Nat), ((s.toUInt32 &&& Int32.toUInt32 31).toBitVec % 32).toNat = k → iushrI (nI m) s &&& 255 = nI (m / 2 ^ k % 256) := fun s k hs => by
    rw [show iushrI (nI m) s = nI (m / 2 ^ k) from pk_ushrN (by omega) s k hs, pk_andN (Nat.lt_of_le_of_lt (Nat.div_le_self _ _) (by omega)) 8 (by decide +kernel)]
  refine ⟨?_, ?_, ?_, ?_⟩
  · exact key (nI (24 - 8 * 0)) 24 (by decide +kernel)
  · exact key (nI (24 - 8 * 1)) 16 (by decide +kernel)
  · exact key (nI (24 - 8 * 2)) 8 (by decide +kernel)
  · have := key (nI (24 - 8 * 3)) 0 (by decide +kernel)
    rw [Nat.pow_zero, Nat.div_one] at this
    exact this
theorem pkv_b {x : List Int32} (hb : ∀ k, ∃ c, c < 128 ∧ x.getD k 0 = nI c) (k : Nat) : ∀ j, j < 4 → sgb (pkv x k 4) j = x.getD (k + j) 0 := by
  obtain ⟨a, a1, a2⟩ := hb (k + 0)
  obtain ⟨b, b1, b2⟩ := hb (k + 1)
  obtain ⟨c, c1, c2⟩ := hb (k + 2)
  obtain ⟨d, d1, d2⟩ := hb (k + 3)
  have e : pkv x k 4 = nI (((a * 256 + b) * 256 + c) * 256 + d) := by
    have e1 : pkv x k 1 = nI a := by
      show ishlI 0 8 ||| x.getD (k + 0) 0 = nI a
      rw [a2]
      have := shl8 (a := 0) (b := a) (by decide) (by omega)
      rw [Nat.zero_mul, Nat.zero_add] at this
      exact this
    have e2 : pkv x k 2 = nI (a * 256 + b) := by
      show ishlI (pkv x k 1) 8 ||| x.getD (k + 1) 0 = _
      rw [e1, b2]; exact shl8 (by omega) (by omega)
    have e3 : pkv x k 3 = nI ((a * 256 + b) * 256 + c) := by
      show ishlI (pkv x k 2) 8 ||| x.getD (k + 2) 0 = _
      rw [e2, c2]; exact shl8 (by omega) (by omega)
    show ishlI (pkv x k 3) 8 ||| x.getD (k + 3) 0 = _
    rw [e3, d2]; exact shl8 (by omega) (by omega)
  obtain ⟨s0, s1, s2, s3⟩ := sgb_n (m := ((a * 256 + b) * 256 + c) * 256 + d) (by omega)
  intro j hj
  rw [e]
  match j, hj with
  | 0, _ => rw [s0, a2]; congr 1; omega
  | 1, _ => rw [s1, b2]; congr 1; omega
  | 2, _ => rw [s2, c2]; congr 1; omega
  | 3, _ => rw [s3, d2]; congr 1; omega
  | n + 4, h => exact absurd h (by omega)
