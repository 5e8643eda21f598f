-- ===== what holds at the law's entry =====
section ENTRY
variable {args : Array Value} {s : State}
theorem en_u {own : String} {index ci N : Nat} {fs : List Value} (hw : ∀ w ∈ wall, w.before args s = true) (h : NWk own index ci N fs) : ∃ p : ClassId × (Nat → Nat), ∀ q, vwCl[ci]? = some q → u_Kn s q.1 q.2.1 q.2.2 p.1 p.2 := by
  obtain ⟨C, T, ty, e, w2, w3, w4, w5, -⟩ := h
  obtain ⟨cC, iS, k⟩ := u_known hw w5 (hw _ w3)
  exact ⟨(cC, iS), fun q hq => by rw [e] at hq; cases hq; exact k⟩
theorem en_a {ty : FieldType} (h : (Cond.arrayClass ty).before args s = true) (hty : ∀ C, ty ≠ .object C) : ∃ c : ClassId, ArrOfT s c ty ∧ va_RA s c ty := by
  obtain ⟨c, k, comp, h1, h2, h3⟩ := Cond.arrayClass_spec h
  refine ⟨c, fun n z => ⟨fun k h => (by cases h), k, h2, comp, h3⟩, ?_⟩
  cases ty with
  | object C => exact absurd rfl (hty C)
  | _ => exact h1
theorem en_o {C : String} (h : (Cond.arrayOver (.object C)).before args s = true) : ∃ c : ClassId, ArrOfT s c (.object C) ∧ va_RA s c (.object C) := by
  obtain ⟨comp, c, k, f1, f2, f3, f4, f5⟩ := Cond.arrayOver_spec h
  exact ⟨c, fun n z => ⟨fun k h => (by cases h), k, f3, comp, f4⟩, k, comp, f3, f4, f1, f5⟩
theorem en_oi (h : (Cond.arrayOver (.array .int)).before args s = true) : ∃ c : ClassId, ArrOfT s c (.array .int) ∧ va_RA s c (.array .int) := by
  obtain ⟨comp, c, k, f1, f2, f3, f4, f5⟩ := arrayOverA_spec h
  exact ⟨c, fun n z => ⟨fun k h => (by cases h), k, f3, comp, f4⟩, f5⟩
theorem en_ao : Cond.arrayOver (.object "java/lang/Object") ∈ lw_tbl := pc5 _ (List.mem_of_getElem? (i := 232) (by decide +kernel))
theorem en_ai : Cond.arrayOver (.array .int) ∈ lw_tbl := pc3 _ (List.mem_of_getElem? (i := 56) (by decide +kernel))
theorem en_K (hts : ∀ w ∈ lw_tbl, w.before args s = true) : ∃ (G : va_G) (ca cb : Nat → ClassId), ∀ (ad : Nat → Nat) (kK kV : Nat → Nat) (fm : Option Nat) (kd : Nat → Nat), va_K G vwCl (tyY (G, ad, ca, kK, kV, fm) (cb, kd)) s := by
  have hw : ∀ w ∈ wall, w.before args s = true := fun w h => hts w (wall_in h)
  obtain ⟨p0, k0⟩ := en_u hw nw_J4_18
  have h : ∀ k : Nat, ∃ p : ClassId × (Nat → Nat), ∀ q, vwCl[k]? = some q → u_Kn s q.1 q.2.1 q.2.2 p.1 p.2 := by
    intro k
    match k with
    | 0 => exact en_u hw nw_J4_18
    | 1 => exact en_u hw nw_X12_158
    | 2 => exact en_u hw nw_X12_221
    | 3 => exact en_u hw nw_X4_11
    | 4 => exact en_u hw nw_X10_28
    | 5 => exact en_u hw nw_X10_90
    | 6 => exact en_u hw nw_X10_68
    | 7 => exact en_u hw nw_X10_25
    | 8 => exact en_u hw nw_X10_83
    | 9 => exact en_u hw nw_X10_16
    | 10 => exact en_u hw nw_X10_7
    | 11 => exact en_u hw nw_X10_23
    | 12 => exact en_u hw nw_X12_8
    | 13 => exact en_u hw nw_X11_8
    | 14 => exact en_u hw nw_L_7
    | k + 15 => exact ⟨p0, fun q hq => by simp [vwCl] at hq⟩
  obtain ⟨g, hg⟩ := Classical.axiomOfChoice h
  obtain ⟨c0, a0⟩ := en_a (hw _ ac_int) (fun C h => by cases h)
  obtain ⟨c1, a1⟩ := en_a (hw _ ac_long) (fun C h => by cases h)
  obtain ⟨c2, a2⟩ := en_a (hw _ ac_boolean) (fun C h => by cases h)
  obtain ⟨c3, a3⟩ := en_o (hts _ ao_tab)
  obtain ⟨c4, a4⟩ := en_a (hw _ ac_byte) (fun C h => by cases h)
  obtain ⟨c5, a5⟩ := en_oi (hts _ en_ai)
  obtain ⟨c6, a6⟩ := en_o (hts _ en_ao)
  refine ⟨(fun k => (g k).1, fun k => (g k).2), fun i => if i = 0 then c0 else if i = 1 then c1 else if i = 2 then c2 else c3, fun i => if i = 0 then c4 else if i = 1 then c5 else c6, fun ad kK kV fm kd => ⟨fun k q hq => hg k q hq, fun k q hq => ?_⟩⟩
  match k, hq with
  | 0, hq => cases hq; exact a0
  | 1, hq => cases hq; exact a1
  | 2, hq => cases hq; exact a2
  | 3, hq => cases hq; exact a3
  | 4, hq => cases hq; exact a4
  | 5, hq => cases hq; exact a5
  | 6, hq => cases hq; exact a6
  | k + 7, hq => simp [tyY] at hq
def ixS : List Nat := [75, 161, 240, 242, 244, 246, 248, 270, 272, 274, 276, 278, 280, 282]
def tmS (i : Nat) : Term := .string (if i = 0 then RX2 else RX12) (ixS.getD i 0)
def pS : List Nat := [264, 275, 280, 287, 295, 304, 314, 325, 343, 366, 388, 409, 434, 457]
abbrev tmR : Term := .static "MustNotStopLaw$Bench" "RULES" "[Ljava/lang/String;"
abbrev tm1 : Term := .static "java/lang/Integer" "DigitOnes" "[B"
abbrev tm2 : Term := .static "java/lang/Integer" "DigitTens" "[B"
abbrev tm3 : Term := .static "java/util/ArrayList" "DEFAULTCAPACITY_EMPTY_ELEMENTDATA" "[Ljava/lang/Object;"
abbrev fvS (i : Nat) : Term := .field (tmS i) "java/lang/String" "value" "[B"
def flt : List Cond := flatC (Jvm.Cond.and given_1 narrow_1)
theorem fl_0 : ∀ i, i < 14 → flt[pS.getD i 0]? = some (Cond.exactly (tmS i) "java/lang/String") ∧ flt[pS.getD i 0 + 1]? = some (Cond.eq (.field (tmS i) "java/lang/String" "coder" "B") (.int 0)) ∧ flt[pS.getD i 0 + 2]? = some (Cond.arrayOf (fvS i) .byte) ∧ flt[pS.getD i 0 + 3]? = some (Cond.eq (.length (fvS i)) (.int (Int32.ofNat (lenS.getD i 0)))) := by decide +kernel
theorem fl_1 : ∀ i, i < 14 → ∀ j, j < lenS.getD i 0 → flt[pS.getD i 0 + 4 + j]? = some (Cond.eq (.elem (fvS i) (.int (Int32.ofNat j))) (.int ((bytS.getD i []).getD j 0))) := by decide +kernel
theorem fl_2 : ∀ i, i < 14 → ∀ j, j < i → flt[pS.getD i 0 + 4 + lenS.getD i 0 + j]? = some (Cond.not (Cond.eq (tmS j) (tmS i))) := by decide +kernel
theorem fl_3 : flt[15]? = some (Cond.eq (.static "java/lang/String" "COMPACT_STRINGS" "Z") (.int 1)) ∧ flt[16]? = some (Cond.isRef (.static "jdk/internal/util/Preconditions" "SIOOBE_FORMATTER" "Ljava/util/function/BiFunction;")) ∧ flt[226]? = some (Cond.isRef (.static Bundle.tN "UNASSIGNED_STACK" Bundle.steD)) ∧ flt[227]? = some (Cond.isRef (.static Bundle.tN "SUPPRESSED_SENTINEL" Bundle.listD)) ∧ flt[263]? = some (Cond.isRef (.mirror "[Ljava/lang/Object;")) := by decide +kernel
theorem fl_4 : flt[5]? = some (Cond.arrayOf tmR (.object "java/lang/String")) ∧ flt[6]? = some (Cond.eq (.length tmR) (.int (Int32.ofNat 8))) ∧ ∀ j, j < 8 → flt[7 + j]? = some (Cond.eq (.elem tmR (.int (Int32.ofNat j))) (tmS (ruK j))) := by decide +kernel
theorem fl_5 : flt[21]? = some (Cond.arrayOf tm1 .byte) ∧ flt[22]? = some (Cond.eq (.length tm1) (.int (Int32.ofNat 100))) ∧ ∀ j, j < 100 → flt[23 + j]? = some (Cond.eq (.elem tm1 (.int (Int32.ofNat j))) (.int (nI (48 + j % 10)))) := by decide +kernel
theorem fl_6 : flt[124]? = some (Cond.arrayOf tm2 .byte) ∧ flt[125]? = some (Cond.eq (.length tm2) (.int (Int32.ofNat 100))) ∧ ∀ j, j < 100 → flt[126 + j]? = some (Cond.eq (.elem tm2 (.int (Int32.ofNat j))) (.int (nI (48 + j / 10)))) := by decide +kernel
theorem fl_7 : flt[229]? = some (Cond.arrayOf tm3 (.object "java/lang/Object")) ∧ flt[231]? = some (Cond.eq (.length tm3) (.int (Int32.ofNat 0))) := by decide +kernel
theorem fl_8 : ∀ i, i < 14 → lenS.getD i 0 < 2 ^ 31 := by decide +kernel
theorem en_sr0 : Cond.stringRef RX2 75 "stnwfrm" ∈ lw_tbl := pc2 _ (List.mem_of_getElem? (i := 237) (by decide +kernel))
theorem en_sr1 : Cond.stringRef RX12 161 "" ∈ lw_tbl := pc3 _ (List.mem_of_getElem? (i := 132) (by decide +kernel))
theorem en_sr2 : Cond.stringRef RX12 240 ";" ∈ lw_tbl := pc6 _ (List.mem_of_getElem? (i := 17) (by decide +kernel))
theorem en_sr3 : Cond.stringRef RX12 242 "t" ∈ lw_tbl := pc6 _ (List.mem_of_getElem? (i := 18) (by decide +kernel))
theorem en_sr4 : Cond.stringRef RX12 244 "l" ∈ lw_tbl := pc6 _ (List.mem_of_getElem? (i := 19) (by decide +kernel))
theorem en_sr5 : Cond.stringRef RX12 246 "c" ∈ lw_tbl := pc6 _ (List.mem_of_getElem? (i := 20) (by decide +kernel))
theorem en_sr6 : Cond.stringRef RX12 248 "m" ∈ lw_tbl := pc6 _ (List.mem_of_getElem? (i := 21) (by decide +kernel))
theorem en_sr7 : Cond.stringRef RX12 270 "s*8-t*2" ∈ lw_tbl := pc6 _ (List.mem_of_getElem? (i := 125) (by decide +kernel))
theorem en_sr8 : Cond.stringRef RX12 272 "s*n*6-w*3-t" ∈ lw_tbl := pc6 _ (List.mem_of_getElem? (i := 126) (by decide +kernel))
theorem en_sr9 : Cond.stringRef RX12 274 "r/5+s-f-t" ∈ lw_tbl := pc6 _ (List.mem_of_getElem? (i := 127) (by decide +kernel))
theorem en_sr10 : Cond.stringRef RX12 276 "s*9-m-t" ∈ lw_tbl := pc6 _ (List.mem_of_getElem? (i := 128) (by decide +kernel))
theorem en_sr11 : Cond.stringRef RX12 278 "(t<20)*s-f" ∈ lw_tbl := pc6 _ (List.mem_of_getElem? (i := 129) (by decide +kernel))
theorem en_sr12 : Cond.stringRef RX12 280 "s*s-t-w" ∈ lw_tbl := pc6 _ (List.mem_of_getElem? (i := 130) (by decide +kernel))
theorem en_sr13 : Cond.stringRef RX12 282 "40-t-w*2+n" ∈ lw_tbl := pc6 _ (List.mem_of_getElem? (i := 131) (by decide +kernel))
theorem en_ls0 : Cond.laysStatic "java/lang/String" "COMPACT_STRINGS" "Z" ∈ lw_tbl := pc2 _ (List.mem_of_getElem? (i := 128) (by decide +kernel))
theorem en_ls1 : Cond.laysStatic "jdk/internal/util/Preconditions" "SIOOBE_FORMATTER" "Ljava/util/function/BiFunction;" ∈ lw_tbl := pc2 _ (List.mem_of_getElem? (i := 144) (by decide +kernel))
theorem en_lsR : Cond.laysStatic "MustNotStopLaw$Bench" "RULES" "[Ljava/lang/String;" ∈ lw_tbl := pc2 _ (List.mem_of_getElem? (i := 115) (by decide +kernel))
theorem en_lsa : Cond.laysStatic "java/lang/Integer" "DigitOnes" "[B" ∈ lw_tbl := pc3 _ (List.mem_of_getElem? (i := 235) (by decide +kernel))
theorem en_lsb : Cond.laysStatic "java/lang/Integer" "DigitTens" "[B" ∈ lw_tbl := pc3 _ (List.mem_of_getElem? (i := 237) (by decide +kernel))
theorem en_lsc : Cond.laysStatic "java/util/ArrayList" "DEFAULTCAPACITY_EMPTY_ELEMENTDATA" "[Ljava/lang/Object;" ∈ lw_tbl := pc5 _ (List.mem_of_getElem? (i := 175) (by decide +kernel))
theorem en_ls2 : Cond.laysStatic Bundle.tN "UNASSIGNED_STACK" Bundle.steD ∈ lw_tbl := pc5 _ (List.mem_of_getElem? (i := 79) (by decide +kernel))
theorem en_ls3 : Cond.laysStatic Bundle.tN "SUPPRESSED_SENTINEL" Bundle.listD ∈ lw_tbl := pc5 _ (List.mem_of_getElem? (i := 81) (by decide +kernel))
theorem en_in0 : Cond.initialized "java/lang/String" ∈ lw_tbl := pc1 _ (List.mem_of_getElem? (i := 13) (by decide +kernel))
theorem en_in1 : Cond.initialized "jdk/internal/util/Preconditions" ∈ lw_tbl := pc1 _ (List.mem_of_getElem? (i := 15) (by decide +kernel))
theorem en_inR : Cond.initialized "MustNotStopLaw$Bench" ∈ lw_tbl := pc1 _ (List.mem_of_getElem? (i := 1) (by decide +kernel))
theorem en_ina : Cond.initialized "java/lang/Integer" ∈ lw_tbl := pc1 _ (List.mem_of_getElem? (i := 25) (by decide +kernel))
theorem en_inc : Cond.initialized "java/util/ArrayList" ∈ lw_tbl := pc1 _ (List.mem_of_getElem? (i := 32) (by decide +kernel))
theorem en_in2 : Cond.initialized Bundle.tN ∈ lw_tbl := pc1 _ (List.mem_of_getElem? (i := 26) (by decide +kernel))
theorem en_nx : ∀ w ∈ nxl, w ∈ lw_tbl := List.forall_mem_cons.mpr ⟨pc5 _ (List.mem_of_getElem? (i := 55) (by decide +kernel)), List.forall_mem_cons.mpr ⟨pc5 _ (List.mem_of_getElem? (i := 57) (by decide +kernel)), List.forall_mem_cons.mpr ⟨pc5 _ (List.mem_of_getElem? (i := 59) (by decide +kernel)), List.forall_mem_cons.mpr ⟨pc5 _ (List.mem_of_getElem? (i := 54) (by decide +kernel)), fun _ h => absurd h List.not_mem_nil⟩⟩⟩⟩
theorem en_dc : Cond.declares ⟨"java/lang/Object", "getClass", "()Ljava/lang/Class;"⟩ ∈ lw_tbl := pc6 _ (List.mem_of_getElem? (i := 116) (by decide +kernel))
theorem en_ny : ∀ q ∈ nyl, Cond.methodLinkNest q.1 q.2.1 q.2.2 "MustNotStopLaw" ∈ lw_tbl := List.forall_mem_cons.mpr ⟨nt_X11, List.forall_mem_cons.mpr ⟨nt_X12, fun _ h => absurd h List.not_mem_nil⟩⟩
theorem en_cy : ∀ q ∈ cyl, Cond.castable q.1 q.2 ∈ lw_tbl := List.forall_mem_cons.mpr ⟨pc3 _ (List.mem_of_getElem? (i := 169) (by decide +kernel)), List.forall_mem_cons.mpr ⟨pc5 _ (List.mem_of_getElem? (i := 27) (by decide +kernel)), List.forall_mem_cons.mpr ⟨pc5 _ (List.mem_of_getElem? (i := 147) (by decide +kernel)), List.forall_mem_cons.mpr ⟨pc6 _ (List.mem_of_getElem? (i := 109) (by decide +kernel)), fun _ h => absurd h List.not_mem_nil⟩⟩⟩⟩
theorem en_NZ (hts : ∀ w ∈ lw_tbl, w.before args s = true) : NZ s := ⟨va_AO.of (hts _ ao_tab), fun q hq => va_Nw.of rfl (hts _ (nz_tab q hq))⟩
theorem en_NX (hts : ∀ w ∈ lw_tbl, w.before args s = true) : NX s := fun w hw => va_Nw.of (nxl_tab w hw) (hts w (en_nx w hw))
theorem en_NY (hts : ∀ w ∈ lw_tbl, w.before args s = true) : NY s := ⟨en_NZ hts, va_AO.of (hts _ en_ao), (show (Cond.arrayOver (.array .int)).before args s = true from hts _ en_ai), fun q hq => va_Nw.of rfl (hts _ (en_ny q hq)), fun q hq => va_Nw.of rfl (hts _ (en_cy q hq))⟩
def fmOf' (fm : Option Nat) : Value := match fm with
  | none => .null
  | some a => .ref a
theorem en_all (hts : ∀ w ∈ lw_tbl, w.before args s = true) (hgv : (Jvm.Cond.and given_1 narrow_1).before args s = true) : ∃ (kK kV : Nat → Nat) (fm : Option Nat) (kd : Nat → Nat), (∀ (G : va_G) (ad : Nat → Nat) (ca cb : Nat → ClassId), KF (G, ad, ca, kK, kV, fm) (cb, kd) (fun q => s.heap.size ≤ q) s s.heap) ∧ ∃ mi, va_Mi oaN mi s ∧ va_Dc s ∧ PVs s := by
  have hf0 : ∀ c ∈ flt, c.before args s = true := flat_of_before _ hgv
  have hf : ∀ {i : Nat} {c : Cond}, flt[i]? = some c → c.before args s = true := fun h => hf0 _ (List.mem_of_getElem? h)
  have hA : ∀ a : Nat, a < s.heap.size → ¬ (fun q => s.heap.size ≤ q) a := fun a h => Nat.not_le.mpr h
  obtain ⟨kK, kV, h1, h2⟩ := vk_Sof (args := args) (s := s) (N := 14) (tm := tmS) (len := lenS) (byt := bytS) (A := fun q => s.heap.size ≤ q) fl_8 (fun i hi => hf (fl_0 i hi).1) (fun i hi => hf (fl_0 i hi).2.1) (fun i hi => hf (fl_0 i hi).2.2.1) (fun i hi => hf (fl_0 i hi).2.2.2) (fun i hi j hj => hf (fl_1 i hi j hj)) (fun i j hi hj hij => by
    rcases Nat.lt_or_gt_of_ne hij with h | h
    · exact .inl (hf (fl_2 j hj i h))
    · exact .inr (hf (fl_2 i hi j h))) hA
  have z2 := va_Zqof (args := args) (hts _ en_ls1) (hts _ en_in1) (hf fl_3.2.1) hA
  obtain ⟨fm, z2⟩ : ∃ fm : Option Nat, va_Z "jdk/internal/util/Preconditions" "SIOOBE_FORMATTER" "Ljava/util/function/BiFunction;" (fmOf' fm) (fun q => s.heap.size ≤ q) s s.heap := by
    rcases z2 with h | ⟨t, h⟩
    · exact ⟨none, h⟩
    · exact ⟨some t, h⟩
  have hru : ∀ j, j < 8 → ruK j < 14 := by decide
  obtain ⟨r0, e0, q0⟩ := va_Tof (args := args) (s := s) (tm := tmR) (ty := .object "java/lang/String") (N := 8) (f := fun j => .ref (kK (ruK j))) (A := fun q => s.heap.size ≤ q) (by decide) (hf fl_4.1) (va_eqt (hf fl_4.2.1)) (fun j hj => va_eqv (hf (fl_4.2.2 j hj)) (h2 (ruK j) (hru j hj))) hA
  obtain ⟨r1, e1, q1⟩ := va_Tof (args := args) (s := s) (tm := tm1) (ty := .byte) (N := 100) (f := fun j => .int (nI (48 + j % 10))) (A := fun q => s.heap.size ≤ q) (by decide) (hf fl_5.1) (va_eqt (hf fl_5.2.1)) (fun j hj => va_eqt (hf (fl_5.2.2 j hj))) hA
  obtain ⟨r2, e2, q2⟩ := va_Tof (args := args) (s := s) (tm := tm2) (ty := .byte) (N := 100) (f := fun j => .int (nI (48 + j / 10))) (A := fun q => s.heap.size ≤ q) (by decide) (hf fl_6.1) (va_eqt (hf fl_6.2.1)) (fun j hj => va_eqt (hf (fl_6.2.2 j hj))) hA
  obtain ⟨r3, e3, q3⟩ := va_Tof (args := args) (s := s) (tm := tm3) (ty := .object "java/lang/Object") (N := 0) (f := fun _ => .null) (A := fun q => s.heap.size ≤ q) (by decide) (hf fl_7.1) (va_eqt (hf fl_7.2)) (fun j hj => absurd hj (Nat.not_lt_zero j)) hA
  obtain ⟨mi, hmi⟩ := va_Mi.of (hf fl_3.2.2.2.2)
  refine ⟨kK, kV, fm, fun i => if i = 0 then r0 else if i = 1 then r1 else if i = 2 then r2 else r3, fun G ad ca cb => ⟨h1, ?_, va_Zof (hts _ en_ls0) (hts _ en_in0) (va_eqt (hf fl_3.1)) hA, ?_, va_Zof (hts _ en_lsR) (hts _ en_inR) e0 hA, q0, va_Zof (hts _ en_lsa) (hts _ en_ina) e1 hA, q1, va_Zof (hts _ en_lsb) (hts _ en_ina) e2 hA, q2, va_Zof (hts _ en_lsc) (hts _ en_inc) e3 hA, q3, en_NX hts, vx_Zqof (args := args) (hts _ en_ls2) (hts _ en_in2) (hf fl_3.2.2.1) hA, vx_Zqof (args := args) (hts _ en_ls3) (hts _ en_in2) (hf fl_3.2.2.2.1) hA⟩, mi, hmi, va_Dc.of (hts _ en_dc), PVs.of hts⟩
  · exact ⟨vk_R.of (hts _ en_sr0) (h2 0 (by decide)), vk_R.of (hts _ en_sr1) (h2 1 (by decide)), vk_R.of (hts _ en_sr2) (h2 2 (by decide)), vk_R.of (hts _ en_sr3) (h2 3 (by decide)), vk_R.of (hts _ en_sr4) (h2 4 (by decide)), vk_R.of (hts _ en_sr5) (h2 5 (by decide)), vk_R.of (hts _ en_sr6) (h2 6 (by decide)), vk_R.of (hts _ en_sr7) (h2 7 (by decide)), vk_R.of (hts _ en_sr8) (h2 8 (by decide)), vk_R.of (hts _ en_sr9) (h2 9 (by decide)), vk_R.of (hts _ en_sr10) (h2 10 (by decide)), vk_R.of (hts _ en_sr11) (h2 11 (by decide)), vk_R.of (hts _ en_sr12) (h2 12 (by decide)), vk_R.of (hts _ en_sr13) (h2 13 (by decide))⟩
  · cases fm with
    | none => exact z2
    | some t => exact z2
end ENTRY
-- ===== the bench is made; the law =====
abbrev rmY_X12_init : Room := { frames := 1, cells := 0, slots := 0, locals := 40 }
set_option maxHeartbeats 4000000 in
theorem cY_X12_init {S : Sx} {K : Kx} {E : Ex} (hE : Stb E) (hF : ∀ (A : Nat → Prop) (s : State), E A s → KF S K A s s.heap) (q : Nat) : CY S K E yX12_init cX12_init 1 none rmY_X12_init [.ref q] ([[(q, .inr (14, [.null, .null, .int 0, .int 0, .int 0, .int 0]))]]) (QYv S ([[(q, .inr (14, [.null, .null, .int 0, .int 0, .int 0, .int 0]))]]) (fun _ => [[(q, .inr (14, [.null, .null, .int 0, .int 0, .int 0, .int 0]))]])) 0 0 := by
  refine y_metv (own := RX12) (by decide +kernel) rfl (Nat.le_of_ble_eq_true rfl) hE (fun X A hX hE2 hI hR => ?_)
  show Y X S K A 0 0 [[(q, .inr (14, [.null, .null, .int 0, .int 0, .int 0, .int 0]))]] 0 [(0, .ref q)] []
  refine Y_aload_n hX dX12_init_0 0 rfl ?_
  refine Y_objInit hX ob_X12_1 ⟨Nat.le_of_ble_eq_true rfl, Nat.le_of_ble_eq_true rfl⟩ dX12_init_1 ?_
  exact hR (fun _ => 0) _ _ dX12_init_4
set_option maxHeartbeats 4000000 in
theorem y_law {X : Cx} {S : Sx} {K : Kx} {A : Nat → Prop} {E : Ex} {sc N mi : Nat} {xs : Nat → Int32} (hE : Stb E) (hF : ∀ (A : Nat → Prop) (s : State), E A s → KF S K A s s.heap) (hx : ∀ (A : Nat → Prop) (s : State), E A s → EX S K sc N xs A s) (hV : ∀ (A : Nat → Prop) (s : State), E A s → PVs s) (hM : ∀ (A : Nat → Prop) (s : State), E A s → va_Mi oaN mi s ∧ va_Dc s) (hN : N < 2 ^ 31) (hX : Yok X S K A cL_law RL 1 room_1) (hE2 : YE X A E) (kk : Y X S K A 20001 150006 [] 11 [(0, .ref sc)] [.int 1]) : Y X S K A 0 0 [] 0 [(0, .ref sc)] [] := by
  refine Y_new hX nw_L_7 ⟨Nat.le_of_ble_eq_true rfl, Nat.le_of_ble_eq_true rfl⟩ dL_law_0 (fun b9 => ?_)
  show Y X S K A 1 6 [[(b9, .inr (14, [.null, .null, .int 0, .int 0, .int 0, .int 0]))]] 3 [(0, .ref sc)] [.ref b9]
  refine Y_dup hX dL_law_3 rfl ?_
  refine Y_resv hX (sub := [[(b9, .inr (14, [.null, .null, .int 0, .int 0, .int 0, .int 0]))]]) (rst := []) rfl (Y_runIN (As := []) (rest := [.ref b9]) hX hE2 ni_X12 nkY_X12_init hE (cY_X12_init hE hF b9) rfl Ecall.same ⟨rfl, rfl⟩ ⟨Nat.le_of_ble_eq_true rfl, Nat.le_of_ble_eq_true rfl⟩ rfl rfl (Nat.le_of_ble_eq_true rfl) dL_law_4 ⟨Nat.le_of_ble_eq_true rfl, Nat.le_of_ble_eq_true rfl⟩) (fun u4 => ?_)
  show Y X S K A 1 6 [[(b9, .inr (14, [.null, .null, .int 0, .int 0, .int 0, .int 0]))]] 7 [(0, .ref sc)] [.ref b9]
  refine Y_aload_n hX dL_law_7 0 rfl ?_
  refine Y_resi hX (sub := [[(b9, .inr (14, [.null, .null, .int 0, .int 0, .int 0, .int 0]))]]) (rst := []) rfl (Y_runV (b := 0) (i := 0) (As := [.ref sc]) (rest := []) hX hE2 mk_L_10 nkY_X12_holds hE (cY_X12_holds hE hF hx hV hM hN b9) rfl Ecall.same rfl rfl rfl ⟨rfl, rfl⟩ ⟨Nat.le_of_ble_eq_true rfl, Nat.le_of_ble_eq_true rfl⟩ rfl rfl (Nat.le_of_ble_eq_true rfl) dL_law_8 ⟨Nat.le_of_ble_eq_true rfl, Nat.le_of_ble_eq_true rfl⟩) (fun u8 => ?_)
  exact kk
