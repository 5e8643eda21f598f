-- ===== what holds at the law's entry =====
section ENTRY
variable {args : Array Value} {s : State}
theorem en_u {own : String} {index ci N : Nat} {fs : List Value} (hw : ∀ w ∈ wall, w.before args s = true) (h : NWk own index ci N fs) : ∃ p : ClassId × (Nat → Nat), ∀ q, vwCl[ci]? = some q → u_Kn s q.1 q.2.1 q.2.2 p.1 p.2 := by
  obtain ⟨C, T, ty, e, w2, w3, w4, w5, -⟩ := h
  obtain ⟨cC, iS, k⟩ := u_known hw w5 (hw _ w3)
  exact ⟨(cC, iS), fun q hq => by rw [e] at hq; cases hq; exact k⟩
theorem en_a {ty : FieldType} (h : (Cond.arrayClass ty).before args s = true) (hty : ∀ C, ty ≠ .object C) : ∃ c : ClassId, ArrOfT s c ty ∧ va_RA s c ty := by
  obtain ⟨c, k, comp, h1, h2, h3⟩ := Cond.arrayClass_spec h
  refine ⟨c, fun n z => ⟨fun k h => (by cases h), k, h2, comp, h3⟩, ?_⟩
  cases ty with
  | object C => exact absurd rfl (hty C)
  | _ => exact h1
theorem en_o {C : String} (h : (Cond.arrayOver (.object C)).before args s = true) : ∃ c : ClassId, ArrOfT s c (.object C) ∧ va_RA s c (.object C) := by
  obtain ⟨comp, c, k, f1, f2, f3, f4, f5⟩ := Cond.arrayOver_spec h
  exact ⟨c, fun n z => ⟨fun k h => (by cases h), k, f3, comp, f4⟩, k, comp, f3, f4, f1, f5⟩
theorem en_K (hts : ∀ w ∈ lw_tbl, w.before args s = true) : ∃ (G : va_G) (ca : Nat → ClassId), va_K G vwCl (tyO ca) s := by
  have hw : ∀ w ∈ wall, w.before args s = true := fun w h => hts w (wall_in h)
  obtain ⟨p0, k0⟩ := en_u hw nw_X4_11
  have h : ∀ k : Nat, ∃ p : ClassId × (Nat → Nat), ∀ q, vwCl[k]? = some q → u_Kn s q.1 q.2.1 q.2.2 p.1 p.2 := by
    intro k
    match k with
    | 0 => exact en_u hw nw_X4_11
    | 1 => exact en_u hw nw_X10_28
    | 2 => exact en_u hw nw_X10_90
    | 3 => exact en_u hw nw_X10_68
    | 4 => exact en_u hw nw_X10_25
    | 5 => exact en_u hw nw_X10_83
    | 6 => exact en_u hw nw_X10_16
    | 7 => exact en_u hw nw_X10_7
    | 8 => exact en_u hw nw_X10_23
    | 9 => exact en_u hw nw_L_8
    | 10 => exact en_u hw nw_L_23
    | k + 11 => exact ⟨p0, fun q hq => by simp [vwCl] at hq⟩
  obtain ⟨g, hg⟩ := Classical.axiomOfChoice h
  obtain ⟨c0, a0⟩ := en_a (hw _ ac_int) (fun C h => by cases h)
  obtain ⟨c1, a1⟩ := en_a (hw _ ac_long) (fun C h => by cases h)
  obtain ⟨c2, a2⟩ := en_a (hw _ ac_boolean) (fun C h => by cases h)
  obtain ⟨c3, a3⟩ := en_o (hts _ ao_tab)
  refine ⟨(fun k => (g k).1, fun k => (g k).2), fun i => if i = 0 then c0 else if i = 1 then c1 else if i = 2 then c2 else c3, fun k q hq => hg k q hq, fun k q hq => ?_⟩
  match k, hq with
  | 0, hq => cases hq; exact a0
  | 1, hq => cases hq; exact a1
  | 2, hq => cases hq; exact a2
  | 3, hq => cases hq; exact a3
  | k + 4, hq => simp [tyO] at hq
def tmS (i : Nat) : Term := if i = 0 then .string RX2 75 else if i = 1 then .string RX11 167 else if i = 2 then .string RX11 220 else if i = 3 then .string RX11 222 else if i = 4 then .string RX11 224 else .string RX11 323
def fmOf' (fm : Option Nat) : Value := match fm with
  | none => .null
  | some a => .ref a
def Ent (s : State) (kK kV : Nat → Nat) (fm : Option Nat) : Prop :=
  vk_S 6 lenS bytS kK kV (fun q => s.heap.size ≤ q) s s.heap ∧ (vk_R RX2 75 "stnwfrm" (kK 0) s ∧ vk_R RX11 167 "123456789" (kK 1) s ∧ vk_R RX11 215 "stnwfrm" (kK 0) s ∧ vk_R RX11 220 "<>=" (kK 2) s ∧ vk_R RX11 222 "+-" (kK 3) s ∧ vk_R RX11 224 "*/" (kK 4) s ∧ vk_R RX11 323 "tlcm" (kK 5) s) ∧
  va_Z "java/lang/String" "COMPACT_STRINGS" "Z" (.int 1) (fun q => s.heap.size ≤ q) s s.heap ∧ va_Z "jdk/internal/util/Preconditions" "SIOOBE_FORMATTER" "Ljava/util/function/BiFunction;" (fmOf' fm) (fun q => s.heap.size ≤ q) s s.heap ∧
  vx_Zq Bundle.tN "UNASSIGNED_STACK" Bundle.steD (fun q => s.heap.size ≤ q) s s.heap ∧ vx_Zq Bundle.tN "SUPPRESSED_SENTINEL" Bundle.listD (fun q => s.heap.size ≤ q) s s.heap
def flt : List Cond := flatC (Jvm.Cond.and given_1 narrow_1)
theorem fl_0 : ∀ i, i < 6 → Cond.exactly (tmS i) "java/lang/String" ∈ flt ∧ Cond.eq (.field (tmS i) "java/lang/String" "coder" "B") (.int 0) ∈ flt ∧ Cond.arrayOf (.field (tmS i) "java/lang/String" "value" "[B") .byte ∈ flt ∧ Cond.eq (.length (.field (tmS i) "java/lang/String" "value" "[B")) (.int (Int32.ofNat (lenS.getD i 0))) ∈ flt := by decide +kernel
theorem fl_1 : ∀ i, i < 6 → ∀ j, j < lenS.getD i 0 → Cond.eq (.elem (.field (tmS i) "java/lang/String" "value" "[B") (.int (Int32.ofNat j))) (.int ((bytS.getD i []).getD j 0)) ∈ flt := by decide +kernel
theorem fl_2 : ∀ i, i < 6 → ∀ j, j < 6 → i ≠ j → Cond.not (Cond.eq (tmS i) (tmS j)) ∈ flt ∨ Cond.not (Cond.eq (tmS j) (tmS i)) ∈ flt := by decide +kernel
theorem fl_3 : Cond.eq (.string RX2 75) (.string RX11 215) ∈ flt := by decide +kernel
theorem fl_4 : Cond.eq (.static "java/lang/String" "COMPACT_STRINGS" "Z") (.int 1) ∈ flt ∧ Cond.isRef (.static "jdk/internal/util/Preconditions" "SIOOBE_FORMATTER" "Ljava/util/function/BiFunction;") ∈ flt ∧ Cond.isRef (.static Bundle.tN "UNASSIGNED_STACK" Bundle.steD) ∈ flt ∧ Cond.isRef (.static Bundle.tN "SUPPRESSED_SENTINEL" Bundle.listD) ∈ flt := by decide +kernel
theorem fl_5 : ∀ i, i < 6 → lenS.getD i 0 < 2 ^ 31 := by decide +kernel
theorem en_sr0 : Cond.stringRef RX2 75 "stnwfrm" ∈ lw_tbl := pc2 _ (List.mem_of_getElem? (i := 179) (by decide +kernel))
theorem en_sr1 : Cond.stringRef RX11 167 "123456789" ∈ lw_tbl := pc6 _ (List.mem_of_getElem? (i := 39) (by decide +kernel))
theorem en_sr2 : Cond.stringRef RX11 215 "stnwfrm" ∈ lw_tbl := pc6 _ (List.mem_of_getElem? (i := 118) (by decide +kernel))
theorem en_sr3 : Cond.stringRef RX11 220 "<>=" ∈ lw_tbl := pc6 _ (List.mem_of_getElem? (i := 119) (by decide +kernel))
theorem en_sr4 : Cond.stringRef RX11 222 "+-" ∈ lw_tbl := pc6 _ (List.mem_of_getElem? (i := 120) (by decide +kernel))
theorem en_sr5 : Cond.stringRef RX11 224 "*/" ∈ lw_tbl := pc6 _ (List.mem_of_getElem? (i := 121) (by decide +kernel))
theorem en_sr6 : Cond.stringRef RX11 323 "tlcm" ∈ lw_tbl := pc7 _ (List.mem_of_getElem? (i := 13) (by decide +kernel))
theorem en_ls0 : Cond.laysStatic "java/lang/String" "COMPACT_STRINGS" "Z" ∈ lw_tbl := pc2 _ (List.mem_of_getElem? (i := 193) (by decide +kernel))
theorem en_ls1 : Cond.laysStatic "jdk/internal/util/Preconditions" "SIOOBE_FORMATTER" "Ljava/util/function/BiFunction;" ∈ lw_tbl := pc2 _ (List.mem_of_getElem? (i := 234) (by decide +kernel))
theorem en_ls2 : Cond.laysStatic Bundle.tN "UNASSIGNED_STACK" Bundle.steD ∈ lw_tbl := pc5 _ (List.mem_of_getElem? (i := 42) (by decide +kernel))
theorem en_ls3 : Cond.laysStatic Bundle.tN "SUPPRESSED_SENTINEL" Bundle.listD ∈ lw_tbl := pc5 _ (List.mem_of_getElem? (i := 44) (by decide +kernel))
theorem en_in0 : Cond.initialized "java/lang/String" ∈ lw_tbl := pc1 _ (List.mem_of_getElem? (i := 13) (by decide +kernel))
theorem en_in1 : Cond.initialized "jdk/internal/util/Preconditions" ∈ lw_tbl := pc1 _ (List.mem_of_getElem? (i := 15) (by decide +kernel))
theorem en_in2 : Cond.initialized Bundle.tN ∈ lw_tbl := pc1 _ (List.mem_of_getElem? (i := 18) (by decide +kernel))
theorem en_nx : ∀ w ∈ nxl, w ∈ lw_tbl := List.forall_mem_cons.mpr ⟨pc5 _ (List.mem_of_getElem? (i := 18) (by decide +kernel)), List.forall_mem_cons.mpr ⟨pc5 _ (List.mem_of_getElem? (i := 20) (by decide +kernel)), List.forall_mem_cons.mpr ⟨pc5 _ (List.mem_of_getElem? (i := 22) (by decide +kernel)), List.forall_mem_cons.mpr ⟨pc5 _ (List.mem_of_getElem? (i := 17) (by decide +kernel)), fun _ h => absurd h List.not_mem_nil⟩⟩⟩⟩
theorem en_NZ (hts : ∀ w ∈ lw_tbl, w.before args s = true) : NZ s := ⟨va_AO.of (hts _ ao_tab), fun q hq => va_Nw.of rfl (hts _ (nz_tab q hq))⟩
theorem en_NX (hts : ∀ w ∈ lw_tbl, w.before args s = true) : NX s := fun w hw => va_Nw.of (nxl_tab w hw) (hts w (en_nx w hw))
theorem en_all (hts : ∀ w ∈ lw_tbl, w.before args s = true) (hgv : (Jvm.Cond.and given_1 narrow_1).before args s = true) : ∃ (kK kV : Nat → Nat) (fm : Option Nat), Ent s kK kV fm := by
  have hf : ∀ c ∈ flt, c.before args s = true := flat_of_before _ hgv
  have hA : ∀ a : Nat, a < s.heap.size → ¬ (fun q => s.heap.size ≤ q) a := fun a h => Nat.not_le.mpr h
  obtain ⟨kK, kV, h1, h2⟩ := vk_Sof (args := args) (s := s) (N := 6) (tm := tmS) (len := lenS) (byt := bytS) (A := fun q => s.heap.size ≤ q) fl_5 (fun i hi => hf _ (fl_0 i hi).1) (fun i hi => hf _ (fl_0 i hi).2.1) (fun i hi => hf _ (fl_0 i hi).2.2.1) (fun i hi => hf _ (fl_0 i hi).2.2.2) (fun i hi j hj => hf _ (fl_1 i hi j hj)) (fun i j hi hj hij => (fl_2 i hi j hj hij).imp (hf _) (hf _)) hA
  have e0 : (Term.string RX2 75).eval args s none [] s = some (.ref (kK 0)) := h2 0 (by decide)
  have z2 := va_Zqof (args := args) (hts _ en_ls1) (hts _ en_in1) (hf _ fl_4.2.1) hA
  obtain ⟨fm, z2⟩ : ∃ fm : Option Nat, va_Z "jdk/internal/util/Preconditions" "SIOOBE_FORMATTER" "Ljava/util/function/BiFunction;" (fmOf' fm) (fun q => s.heap.size ≤ q) s s.heap := by
    rcases z2 with h | ⟨t, h⟩
    · exact ⟨none, h⟩
    · exact ⟨some t, h⟩
  exact ⟨kK, kV, fm, h1, ⟨vk_R.of (hts _ en_sr0) e0, vk_R.of (hts _ en_sr1) (h2 1 (by decide)), vk_R.of (hts _ en_sr2) (va_eqR (hf _ fl_3) e0), vk_R.of (hts _ en_sr3) (h2 2 (by decide)), vk_R.of (hts _ en_sr4) (h2 3 (by decide)), vk_R.of (hts _ en_sr5) (h2 4 (by decide)), vk_R.of (hts _ en_sr6) (h2 5 (by decide))⟩, va_Zof (hts _ en_ls0) (hts _ en_in0) (va_eqt (hf _ fl_4.1)) hA, z2, vx_Zqof (args := args) (hts _ en_ls2) (hts _ en_in2) (hf _ fl_4.2.2.1) hA, vx_Zqof (args := args) (hts _ en_ls3) (hts _ en_in2) (hf _ fl_4.2.2.2) hA⟩
end ENTRY
