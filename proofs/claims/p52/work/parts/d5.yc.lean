-- ===== contracts with any names =====
def QGq {U0 : Type} (S : Sx) (bl : Bk) (ro : U0 → Option Nat) (Φ : U0 → Prop) (blk : U0 → Bk) (sz : Nat) : Array Value → State → Outcome → State → Prop := va_Qq (S := U0) (fun r u => r = ro u ∧ Φ u) (fun u t => va_P S.1 vwCl (blk u).flatten t.heap ∧ va_D (va_A bl.flatten sz) (blk u).flatten) (va_A bl.flatten sz)
def YHGq {U0 : Type} (X : Cx) (S : Sx) (K : Kx) (A : Nat → Prop) (cc : ByteArray) (ro : U0 → Option Nat) (Φ : U0 → Prop) (blk : U0 → Bk) (mc ms : Nat) : Prop := ∀ (u : U0) (pc : Nat) (lv : List (Nat × Value)), Φ u → decode cc pc = .ok (.areturn, 1) → Y X S K A mc ms (blk u) pc lv [va_rf (ro u)]
section YG1
variable {U0 : Type} {X : Cx} {S : Sx} {K : Kx} {A : Nat → Prop} {E E' : Ex} {kc kn : Nat} {bl sub rst : Bk} {cc : ByteArray} {own : String} {nL : Nat} {rm : Room} {pc : Nat} {lv lv' : List (Nat × Value)} {st rest As : List Value} {mc ms : Nat}
theorem Y_resGq {ro : U0 → Option Nat} {Φ : U0 → Prop} {blk : U0 → Bk} (hX : Yok X S K A cc own nL rm) (hbl : bl = sub ++ rst) (hr : YRun X S A kc kn bl pc lv st rest mc ms sub (QGq S sub ro Φ blk)) (kk : ∀ u, Φ u → Y X S K A (kc + mc) (kn + ms) (blk u ++ rst) (pc + 3) lv (va_rf (ro u) :: rest)) : Y X S K A kc kn bl pc lv st := by
  obtain ⟨p, l, e, R, s, m, args, below, meth, c, Q⟩ := X
  intro H locs ls hP hD hS hl
  obtain ⟨a, hra⟩ := hr H locs ls hP hD hS hl
  subst hbl
  rw [List.flatten_append] at hP hD
  have hF := vaA_in hD hS hX.2.2.2.2.2.2.2.1
  refine va_callq hra hS (fun q _ h => hF q h) hF (fun r u t H1 locs1 ht hvm hp hB hz hk1 hS1 => ?_)
  obtain ⟨rfl, hp2⟩ := hp
  obtain ⟨hP1, hD1⟩ := hB
  rw [ht] at hP1
  obtain ⟨hP2, hD2⟩ := va_mid2 hP hD hk1 hF hP1 hD1
  exact kk u hp2 H1 locs1 ls (by rw [List.flatten_append]; exact hP2) (by rw [List.flatten_append]; exact hD2) hS1 hl
end YG1
section YG2
variable {U0 : Type} {S : Sx} {K : Kx} {E : Ex} {bl : Bk} {cc : ByteArray} {own : String} {rm : Room} {y : MethodName} {maxL mc ms : Nat} {vs : List Value} {Φ : U0 → Prop} {blk : U0 → Bk}
theorem y_metGq {ty : FieldType} {ro : U0 → Option Nat} (hrt : (∃ n, ty = .object n) ∨ ∃ t, ty = .array t) (hy : plainFor y = true) (hown : y.cls = own) (hn : (lg_sl vs).length ≤ maxL) (hE : Stb E) (walk : ∀ (X : Cx) (A : Nat → Prop), Yok X S K A cc own maxL rm → YE X A E → YIn X y → YHGq X S K A cc ro Φ blk mc ms → Y X S K A 0 0 bl 0 (lv_args 0 vs) []) : CY S K E y cc maxL (some ty) rm vs bl (QGq S bl ro Φ blk) mc ms := by
  intro l sz hst9
  refine y_ofW (cc := cc) (maxL := maxL) (ret := (some ty)) hy rfl ?_
  intro p e s m args below meth c s₁ B hml hv
  obtain ⟨rfl, hsz, hP, hD, hK, hO, hEs⟩ := hv
  subst hsz
  have hx := B.exec
  have hb := B.bytes
  have hr := B.returns
  have hts := atoms_spec (ws := wsg y cc maxL (some ty)) B.pre
  have hf : s.vm.findClass own = some m.cls := by rw [← hown]; exact findClass_of_methodNamed B.named
  have hin : meth.name = y.name := (name_of_methodNamed B.named B.method).1
  have hlocks := B.notSynchronized
  have hl := lv_entry vs (n := maxL) hn
  rw [lg_entry_eq]
  generalize (lg_sl vs ++ List.replicate (maxL - (lg_sl vs).length) Slot.unset).toArray = ls at hl ⊢
  refine walk (p, l, e, rm, s, m, _, below, meth, c, MQ below (QGq S bl ro Φ blk s.heap.size) vs.toArray s mc ms (va_A bl.flatten s.heap.size)) (va_A bl.flatten s.heap.size) ⟨hx, hb, hml, rfl, hf, fun w h => hts w (List.mem_cons_of_mem _ h), hK, fun q h => .inr h, hO⟩ ⟨hE, hEs, hst9⟩ hin ?_ s.heap [] ls hP hD va_S.rf (by rw [hml]; exact hl)
  intro u pc lv hΦ d H locs ls2 hP2 hD2 hS2 hl2
  exact W.aret (rt := ty) hx hb hr hrt (va_rf_or _) (fun t ht hW => ⟨⟨ro u, u, rfl, ⟨rfl, hΦ⟩, ⟨by rw [ht]; exact hP2, hD2⟩⟩, hS2.F ht⟩) hS2.2.2 d
end YG2
-- ===== the law's script; what is known besides =====
def EL (S : Sx) (K : Kx) (mi b n : Nat) (xs : Nat → Int32) : Ex := fun A U => EX S K b n xs A U ∧ va_Mi oaN mi U ∧ va_Dc U ∧ PVs U
theorem PVs.warm {s U : State} (h : PVs s) (hW : s.WarmedH U.vm) : PVs U := fun y hy => by
  have g : goodWord (Cond.selects RJ4 y y) = true := by
    simp only [pyl, List.mem_cons, List.not_mem_nil, or_false] at hy
    rcases hy with rfl | rfl | rfl <;> rfl
  exact word_at hW (good_of_word g) (h y hy)
theorem EL.stb (S : Sx) (K : Kx) (mi b n : Nat) (xs : Nat → Int32) : Stb (EL S K mi b n xs) :=
  ⟨fun A B s U h hW hq hAB => ⟨(EX.stb S K b n xs).1 A B s U h.1 hW hq hAB, h.2.1.moved hW.alike, h.2.2.1.moved hW.alike, h.2.2.2.warm hW⟩, fun A U g mk a h => ⟨(EX.stb S K b n xs).2 A U g mk a h.1, h.2.1.moved (U := U.calling g mk a) (Vm.Alike.refl U.vm), h.2.2.1.moved (U := U.calling g mk a) (Vm.Alike.refl U.vm), fun y hy => va_tabs rfl (rfl : U.vm = (U.calling g mk a).vm) (h.2.2.2 y hy)⟩⟩
section YX
variable {X : Cx} {S : Sx} {K : Kx} {A : Nat → Prop} {E : Ex} {kc kn : Nat} {bl : Bk} {cc : ByteArray} {own : String} {nL : Nat} {rm : Room} {pc : Nat} {lv : List (Nat × Value)} {st : List Value} {b n : Nat} {xs : Nat → Int32}
theorem Y_sld {i v : Int32} (hX : Yok X S K A cc own nL rm) (hE : YE X A E) (hx : ∀ (A : Nat → Prop) (s : State), E A s → EX S K b n xs A s) (hin : vp_in i n) (hv : xs i.toNatClampNeg = v) (d : decode cc pc = .ok (.iaload, 1)) (kk : Y X S K A kc kn bl (pc + 1) lv (.int v :: st)) : Y X S K A kc kn bl pc lv (.int i :: .ref b :: st) := by
  obtain ⟨p, l, e, R, s, m, args, below, meth, c, Q⟩ := X
  obtain ⟨h1, h2, h3, rfl, h5, h6, h7, h8, h9⟩ := hX
  subst hv
  have z := hx A s hE.2.1
  exact fun H locs ls hP hD hS hl => va_sld h1 h2 z.2.1 z.2.2.1 z.2.2.2 hS hin d (kk H locs ls hP hD hS hl)
theorem Y_scl (hX : Yok X S K A cc own nL rm) (hE : YE X A E) (hx : ∀ (A : Nat → Prop) (s : State), E A s → EX S K b n xs A s) (d : decode cc pc = .ok (.arraylength, 1)) (kk : Y X S K A kc kn bl (pc + 1) lv (.int (nI n) :: st)) : Y X S K A kc kn bl pc lv (.ref b :: st) := by
  obtain ⟨p, l, e, R, s, m, args, below, meth, c, Q⟩ := X
  obtain ⟨h1, h2, h3, rfl, h5, h6, h7, h8, h9⟩ := hX
  have z := hx A s hE.2.1
  exact fun H locs ls hP hD hS hl => va_slen h1 h2 z.2.1 z.2.2.1 z.2.2.2 hS d (kk H locs ls hP hD hS hl)
end YX
/-- a constant text -/
def ktS (S : Sx) (k : Nat) : Sk := (adK S k, adV S k, bytS.getD k [])
theorem kt_at {S : Sx} {K : Kx} {A : Nat → Prop} {s : State} {k : Nat} (h : KF S K A s s.heap) (hk : k < 14) : StrAt (ktS S k) A s s.heap := by
  obtain ⟨z1, z2, z3, z4⟩ := h.1.1 k hk
  have e : lenS.getD k 0 = (bytS.getD k []).length := (by decide +kernel : ∀ k, k < 14 → lenS.getD k 0 = (bytS.getD k []).length) k hk
  rw [e] at z4
  exact ⟨z1, z2, z3, z4⟩
theorem kt_len : ∀ k, k < 14 → (bytS.getD k []).length ≤ 12 := by decide +kernel
theorem kt_b (k : Nat) (hk : k < 14) : ∀ j : Nat, ∃ c, c < 128 ∧ (bytS.getD k []).getD j 0 = nI c := by
  have key : ∀ k, k < 14 → ∀ j, j < 12 → ∃ c, c < 128 ∧ (bytS.getD k []).getD j 0 = nI c := by decide +kernel
  intro j
  by_cases c : j < 12
  · exact key k hk j c
  · exact ⟨0, by decide, by rw [List.getD_eq_getElem?_getD, List.getElem?_eq_none (by have := kt_len k hk; omega)]; rfl⟩
-- ===== remainders =====
theorem xor_sg (x y : Int32) (hy : 0 ≤ y.toInt) : (0 ≤ x ^^^ y) ↔ 0 ≤ x.toInt := by
  have m := BitVec.msb_xor (x := x.toBitVec) (y := y.toBitVec)
  rw [BitVec.msb_eq_toInt, BitVec.msb_eq_toInt, BitVec.msb_eq_toInt] at m
  have ey : decide (y.toBitVec.toInt < 0) = false := decide_eq_false (by show ¬ y.toInt < 0; omega)
  rw [ey, Bool.xor_false] at m
  have m2 : (x ^^^ y).toInt < 0 ↔ x.toInt < 0 := decide_eq_decide.mp m
  rw [Int32.le_iff_toInt_le, Int32.toInt_zero]
  omega
theorem nI_of_toInt {x : Int32} {k : Nat} (hk : k < 2 ^ 31) (h : x.toInt = k) : x = nI k := Int32.toInt_inj.mp (by rw [h, nI_toInt hk])
theorem bmod_in {a : Int} (h1 : -2147483648 ≤ a) (h2 : a < 2147483648) : a.bmod (2 ^ 32) = a := Int.bmod_eq_of_le (by omega) (by omega)
theorem fm_of (x : Int32) {m : Nat} (h0 : 0 < m) (h : m < 2 ^ 31) : ∃ k, k < m ∧ fmI x (nI m) = nI k := by
  have r1 := Int32.le_toInt x
  have r2 := Int32.toInt_lt x
  by_cases hx : 0 ≤ x.toInt
  · obtain ⟨c, hc⟩ := Int.eq_ofNat_of_zero_le hx
    have ex : x = nI c := nI_of_toInt (by omega) hc
    refine ⟨c % m, Nat.mod_lt _ h0, ?_⟩
    unfold fmI
    rw [if_pos ((xor_sg x (nI m) (by rw [nI_toInt h]; omega)).mpr hx)]
    unfold iremI
    have d1 := Nat.div_mul_le_self c m
    have d2 := Nat.div_add_mod c m
    have d3 := Nat.div_le_self c m
    rw [ex, pk_div (by omega) h0 h, pk_mul, pk_sub d1]
    congr 1
    rw [Nat.mul_comm] at d2
    omega
  · obtain ⟨c, hc⟩ : ∃ c : Nat, x.toInt = -(c : Int) := ⟨(-x.toInt).toNat, by omega⟩
    have d1 := Nat.div_mul_le_self c m
    have d2 := Nat.div_add_mod c m
    have d3 := Nat.div_le_self c m
    rw [Nat.mul_comm] at d2
    have d4 := Nat.mod_lt c h0
    obtain ⟨k, hk⟩ : ∃ k, c / m = k := ⟨_, rfl⟩
    obtain ⟨t, ht⟩ : ∃ t, k * m = t := ⟨_, rfl⟩
    obtain ⟨v, hv⟩ : ∃ v, c % m = v := ⟨_, rfl⟩
    rw [hk, ht] at d1
    rw [hk, ht, hv] at d2
    rw [hk] at d3
    rw [hv] at d4
    have e1 : (x / nI m).toInt = -((k : Nat) : Int) := by
      rw [Int32.toInt_div, hc, nI_toInt h, Int.neg_tdiv, ← Int.ofNat_tdiv, hk]
      exact bmod_in (by omega) (by omega)
    have e2 : (x / nI m * nI m).toInt = -((t : Nat) : Int) := by
      rw [Int32.toInt_mul, e1, nI_toInt h, Int.neg_mul, ← Int.natCast_mul, ht]
      exact bmod_in (by omega) (by omega)
    have e3 : (iremI x (nI m)).toInt = -((v : Nat) : Int) := by
      unfold iremI
      rw [Int32.toInt_sub, e2, hc, show -(c : Int) - -((t : Nat) : Int) = -((v : Nat) : Int) by omega]
      exact bmod_in (by omega) (by omega)
    unfold fmI
    rw [if_neg (fun z => hx ((xor_sg x (nI m) (by rw [nI_toInt h]; omega)).mp z))]
    by_cases hz : v = 0
    · have e4 : iremI x (nI m) = 0 := nI_of_toInt (k := 0) (by decide) (by rw [e3, hz]; rfl)
      exact ⟨0, h0, by rw [if_pos e4, e4]; rfl⟩
    · have e4 : ¬ iremI x (nI m) = 0 := fun z => by rw [z, Int32.toInt_zero] at e3; omega
      refine ⟨m - v, by omega, ?_⟩
      rw [if_neg e4]
      refine nI_of_toInt (by omega) ?_
      rw [Int32.toInt_add, e3, nI_toInt h, bmod_in (by omega) (by omega)]
      omega
theorem and7_of (x : Int32) : ∃ k, k < 8 ∧ x &&& 7 = nI k := by
  have e : (x &&& 7).toBitVec.toNat = x.toBitVec.toNat &&& 7 := rfl
  have h : (x &&& 7).toBitVec.toNat < 8 := by rw [e]; exact Nat.lt_of_le_of_lt Nat.and_le_right (by decide)
  refine ⟨(x &&& 7).toBitVec.toNat, h, ?_⟩
  have key : ∀ k, k < 8 → ∀ z : Int32, z.toBitVec.toNat = k → z = nI k := fun k hk z hz => by
    refine Int32.toBitVec_inj.mp (BitVec.eq_of_toNat_eq ?_)
    rw [hz]
    exact (by decide +kernel : ∀ k, k < 8 → k = (nI k).toBitVec.toNat) k hk
  exact key _ h _ rfl
theorem and15_of (x : Int32) : ∃ k, k < 16 ∧ x &&& 15 = nI k := by
  have e : (x &&& 15).toBitVec.toNat = x.toBitVec.toNat &&& 15 := rfl
  have h : (x &&& 15).toBitVec.toNat < 16 := by rw [e]; exact Nat.lt_of_le_of_lt Nat.and_le_right (by decide)
  refine ⟨(x &&& 15).toBitVec.toNat, h, ?_⟩
  have key : ∀ k, k < 16 → ∀ z : Int32, z.toBitVec.toNat = k → z = nI k := fun k hk z hz => by
    refine Int32.toBitVec_inj.mp (BitVec.eq_of_toNat_eq ?_)
    rw [hz]
    exact (by decide +kernel : ∀ k, k < 16 → k = (nI k).toBitVec.toNat) k hk
  exact key _ h _ rfl
def cellI (n : Nat) (xs : Nat → Int32) (k : Nat) : Int32 := if k < n then xs k else 0
abbrev rmY_X12_cell : Room := { frames := 0, cells := 0, slots := 0, locals := 0 }
set_option maxHeartbeats 4000000 in
theorem cY_X12_cell {S : Sx} {K : Kx} {E : Ex} (hE : Stb E) (hF : ∀ (A : Nat → Prop) (s : State), E A s → KF S K A s s.heap) {sc n : Nat} {xs : Nat → Int32} (hx : ∀ (A : Nat → Prop) (s : State), E A s → EX S K sc n xs A s) (hn : n < 2 ^ 31) (k : Nat) (hk : k < 2 ^ 31) : CY S K E yX12_cell cX12_cell 2 (some .int) rmY_X12_cell [.ref sc, .int (nI k)] ([]) (QYi S ([]) (cellI n xs k) (fun _ => [])) 0 0 := by
  refine y_meti (own := RX12) (by decide +kernel) rfl (Nat.le_of_ble_eq_true rfl) hE (fun X A hX hE2 hI hR => ?_)
  show Y X S K A 0 0 [] 0 [(0, .ref sc), (1, .int (nI k))] []
  refine Y_iload_n hX dX12_cell_0 1 rfl ?_
  refine Y_aload_n hX dX12_cell_1 0 rfl ?_
  refine Y_scl hX hE2 hx dX12_cell_2 ?_
  refine Y_icmp_ge (tgt := 12) hX dX12_cell_3 (by decide) (fun h3 => ?_) (fun h3 => ?_)
  · refine Y_iconst (v := 0) hX dX12_cell_12 (by decide) ?_
    refine Y_eqi (x' := cellI n xs k) (by unfold cellI; rw [if_neg (by have := (nI_leI (a := n) (b := k) (by omega) (by omega)).mp h3; omega)]) ?_
    exact hR (fun _ => 0) _ _ rfl dX12_cell_13
  · refine Y_aload_n hX dX12_cell_6 0 rfl ?_
    refine Y_iload_n hX dX12_cell_7 1 rfl ?_
    refine Y_sld (v := xs k) hX hE2 hx (vp_in_nI (Nat.not_le.mp (fun z => h3 (nI_le z (by omega)))) (by omega)) (by rw [nI_clamp (by omega)]) dX12_cell_8 ?_
    refine Y_goto (tgt := 13) hX dX12_cell_9 (by decide) ?_
    refine Y_eqi (x' := cellI n xs k) (by unfold cellI; rw [if_pos (Nat.not_le.mp (fun z => h3 (nI_le z (by omega))))]) ?_
    exact hR (fun _ => 0) _ _ rfl dX12_cell_13
