-- ===== row, ringer, person: what the class throws is caught =====
section WR
variable {X : Cx} {S : Sx} {A0 : Nat → Prop} {kc kn : Nat} {cc : ByteArray} {own : String} {nL : Nat} {rm : Room} {w : Wd} {pc : Nat} {lv lv' : List (Nat × Value)} {st : List Value}
theorem VL_ldc {index : Nat} {v : Int32} (hX : LOk X S A0 cc own nL rm) (d : decode cc pc = .ok (.ldc index, 2)) (hw : Cond.constant own index v ∈ wall) (kk : VL X S A0 kc kn w (pc + 2) lv (.int v :: st)) : VL X S A0 kc kn w pc lv st := by
  obtain ⟨p, l, e, R, s, m, args, below, meth, c, Q⟩ := X
  obtain ⟨⟨h1, h2, h3, h4, h5, h6, h7⟩, g⟩ := hX
  exact fun H locs ls hP hS hl => lv_ldc h1 h2 h5 (h6 _ hw) d (kk H locs ls hP hS hl)
theorem VL_ldc2 {index : Nat} {v : Int64} (hX : LOk X S A0 cc own nL rm) (d : decode cc pc = .ok (.ldc2_w index, 3)) (hw : Cond.constantLong own index v ∈ wall) (kk : VL X S A0 kc kn w (pc + 3) lv (.long v :: st)) : VL X S A0 kc kn w pc lv st := by
  obtain ⟨p, l, e, R, s, m, args, below, meth, c, Q⟩ := X
  obtain ⟨⟨h1, h2, h3, h4, h5, h6, h7⟩, g⟩ := hX
  exact fun H locs ls hP hS hl => lv_ldc2 h1 h2 h5 (h6 _ hw) d (kk H locs ls hP hS hl)
theorem metwl {l : Launch} {y : MethodName} {maxL : Nat} {hh : List (Nat × Nat × Nat × Nat)} {vs : List Value} {r : Int64 × Wd} (hl : l.stackTraces = false) (hy : plainName y.cls = true) (hown : y.cls = own) (hn : (lg_sl vs).length ≤ maxL) (walk : ∀ X : Cx, LOk X S (Aw S) cc own maxL rm → Xtab X hh → (∀ (v : Int64) (w : Wd) (pc : Nat) (lv : List (Nat × Value)), (v, w) = r → decode cc pc = .ok (.lreturn, 1) → VL X S (Aw S) 1 6 w pc lv [.long v]) → VL X S (Aw S) 0 0 w 0 (lv_args 0 vs) []) : Met l y (Cond.codeWith y cc maxL (some .long) hh :: wall) rm (PX S w vs) (QCl S r) 1 6 (Aw S) := by
  refine va_MetW (cc := cc) (maxL := maxL) (ret := (some .long)) (hh := hh) hy rfl ?_
  intro p e s m args below meth c s₁ B hml hv
  obtain ⟨rfl, hP, hw, hNX, hNU⟩ := hv
  have hx := B.exec
  have hb := B.bytes
  have hr := B.returns
  have hts := atoms_spec (ws := Cond.codeWith y cc maxL (some .long) hh :: wall) B.pre
  have htab := vx_table (x := y) B (hts _ List.mem_cons_self)
  have hf : s.vm.findClass own = some m.cls := by rw [← hown]; exact findClass_of_methodNamed B.named
  have hlocks := B.notSynchronized
  have hl0 := lv_entry vs (n := maxL) hn
  rw [lg_entry_eq]
  generalize (lg_sl vs ++ List.replicate (maxL - (lg_sl vs).length) Slot.unset).toArray = ls at hl0 ⊢
  refine walk (p, l, e, rm, s, m, _, below, meth, c, MQ below (QCl S r) vs.toArray s 1 6 (Aw S)) ⟨⟨hx, hb, hml, rfl, hf, fun w h => hts w (List.mem_cons_of_mem _ h), hw⟩, hl, fun _ h => h, fun _ _ h => h, hNX, hNU⟩ htab ?_ s.heap [] ls hP va_S.rf (by rw [hml]; exact hl0)
  intro v w2 pc lv e0 d H locs ls2 hP2 hS2 hl2
  exact W.lret hx hb hr (fun t ht hW => ⟨⟨v, w2, rfl, e0, by show va_P _ _ _ _; rw [ht]; exact hP2⟩, hS2.F ht⟩) hS2.2.2 d
end WR
abbrev rmY_W : Room := { frames := 8, cells := 1, slots := 6, locals := 170 }
theorem nx_X12 : Cond.classLink RX12 13 nsee ∈ wall := wl (pc5 _ (List.mem_of_getElem? (i := 47) (by decide +kernel))) (by decide +kernel)
theorem mw_X12_205 : MWk RX12 205 yX12_ringer cX12_ringer 4 (some .int) [(0, 6, 7, 13)] := ⟨wl (pc5 _ (List.mem_of_getElem? (i := 122) (by decide +kernel))) rfl, wl (pc5 _ (List.mem_of_getElem? (i := 123) (by decide +kernel))) rfl, wl (pc1 _ (List.mem_of_getElem? (i := 1) (by decide +kernel))) rfl, wl (pc5 _ (List.mem_of_getElem? (i := 124) (by decide +kernel))) rfl⟩
theorem cW_X12_ringer (l : Launch) (hl : l.stackTraces = false) (S : Sx) {o : Option Int32} {w1 : Wd} {F : Nat} {w : Wd} {x y : Int32} (h : P_X10_ringer F w x y = some (o, w1)) : Met l yX12_ringer (Cond.codeWith yX12_ringer cX12_ringer 4 (some .int) [(0, 6, 7, 13)] :: wall) rmY_W (PX S w [rf S 0, .int x, .int y]) (QCi S (o.getD (-7777777), w1)) 1 6 (Aw S) := by
  refine metw hl (by decide) rfl (Nat.le_of_ble_eq_true rfl) (fun X hX hT hE => ?_)
  show VL X S (Aw S) 0 0 w 0 [(0, rf S 0), (1, .int x), (2, .int y)] []
  refine VL_aload_n hX dX12_ringer_0 0 rfl ?_
  refine VL_iload_n hX dX12_ringer_1 1 rfl ?_
  refine VL_iload_n hX dX12_ringer_2 2 rfl ?_
  refine VL_callXi (As := [.int x, .int y]) (rest := []) hX hT mk_X12_17 nk_X10_ringer (fun l hl => cx_X10_ringer l hl S h) tb_0 rfl ⟨rfl, rfl, Nat.le_of_ble_eq_true rfl, Nat.le_of_ble_eq_true rfl⟩ rfl rfl (Nat.le_of_ble_eq_true rfl) dX12_ringer_3 ⟨Nat.le_of_ble_eq_true rfl, Nat.le_of_ble_eq_true rfl⟩ ⟨by decide, by decide, by decide⟩ nx_X12 (fun ho q => ?_) (fun v ho => ?_)
  · refine VL_astore_n hX dX12_ringer_7 (by decide) rfl ?_
    refine VL_ldc (v := -7777777) hX dX12_ringer_8 cn_X12_21 ?_
    exact hE _ _ _ _ (by rw [ho]; rfl) dX12_ringer_10
  · exact hE _ _ _ _ (by rw [ho]; rfl) dX12_ringer_6
theorem mw_X12_212 : MWk RX12 212 yX12_person cX12_person 4 (some .int) [(0, 6, 7, 13)] := ⟨wl (pc5 _ (List.mem_of_getElem? (i := 151) (by decide +kernel))) rfl, wl (pc5 _ (List.mem_of_getElem? (i := 152) (by decide +kernel))) rfl, wl (pc1 _ (List.mem_of_getElem? (i := 1) (by decide +kernel))) rfl, wl (pc5 _ (List.mem_of_getElem? (i := 153) (by decide +kernel))) rfl⟩
theorem cW_X12_person (l : Launch) (hl : l.stackTraces = false) (S : Sx) {o : Option Int32} {w1 : Wd} {F : Nat} {w : Wd} {x y : Int32} (h : P_X10_person F w x y = some (o, w1)) : Met l yX12_person (Cond.codeWith yX12_person cX12_person 4 (some .int) [(0, 6, 7, 13)] :: wall) rmY_W (PX S w [rf S 0, .int x, .int y]) (QCi S (o.getD (-7777777), w1)) 1 6 (Aw S) := by
  refine metw hl (by decide) rfl (Nat.le_of_ble_eq_true rfl) (fun X hX hT hE => ?_)
  show VL X S (Aw S) 0 0 w 0 [(0, rf S 0), (1, .int x), (2, .int y)] []
  refine VL_aload_n hX dX12_person_0 0 rfl ?_
  refine VL_iload_n hX dX12_person_1 1 rfl ?_
  refine VL_iload_n hX dX12_person_2 2 rfl ?_
  refine VL_callXi (As := [.int x, .int y]) (rest := []) hX hT mk_X12_22 nk_X10_person (fun l hl => cx_X10_person l hl S h) tb_0 rfl ⟨rfl, rfl, Nat.le_of_ble_eq_true rfl, Nat.le_of_ble_eq_true rfl⟩ rfl rfl (Nat.le_of_ble_eq_true rfl) dX12_person_3 ⟨Nat.le_of_ble_eq_true rfl, Nat.le_of_ble_eq_true rfl⟩ ⟨by decide, by decide, by decide⟩ nx_X12 (fun ho q => ?_) (fun v ho => ?_)
  · refine VL_astore_n hX dX12_person_7 (by decide) rfl ?_
    refine VL_ldc (v := -7777777) hX dX12_person_8 cn_X12_21 ?_
    exact hE _ _ _ _ (by rw [ho]; rfl) dX12_person_10
  · exact hE _ _ _ _ (by rw [ho]; rfl) dX12_person_6
theorem mw_X12_46 : MWk RX12 46 yX12_row cX12_row 3 (some .long) [(0, 5, 6, 13)] := ⟨wl (pc5 _ (List.mem_of_getElem? (i := 44) (by decide +kernel))) rfl, wl (pc5 _ (List.mem_of_getElem? (i := 45) (by decide +kernel))) rfl, wl (pc1 _ (List.mem_of_getElem? (i := 1) (by decide +kernel))) rfl, wl (pc5 _ (List.mem_of_getElem? (i := 46) (by decide +kernel))) rfl⟩
theorem cW_X12_row (l : Launch) (hl : l.stackTraces = false) (S : Sx) {o : Option Int64} {w1 : Wd} {F : Nat} {w : Wd} {x : Int32} (h : P_X10_row F w x = some (o, w1)) : Met l yX12_row (Cond.codeWith yX12_row cX12_row 3 (some .long) [(0, 5, 6, 13)] :: wall) rmY_W (PX S w [rf S 0, .int x]) (QCl S (o.getD (-7777777), w1)) 1 6 (Aw S) := by
  refine metwl hl (by decide) rfl (Nat.le_of_ble_eq_true rfl) (fun X hX hT hE => ?_)
  show VL X S (Aw S) 0 0 w 0 [(0, rf S 0), (1, .int x)] []
  refine VL_aload_n hX dX12_row_0 0 rfl ?_
  refine VL_iload_n hX dX12_row_1 1 rfl ?_
  refine VL_callXl (As := [.int x]) (rest := []) hX hT mk_X12_7 nk_X10_row (fun l hl => cx_X10_row l hl S h) tb_0 rfl ⟨rfl, rfl, Nat.le_of_ble_eq_true rfl, Nat.le_of_ble_eq_true rfl⟩ rfl rfl (Nat.le_of_ble_eq_true rfl) dX12_row_2 ⟨Nat.le_of_ble_eq_true rfl, Nat.le_of_ble_eq_true rfl⟩ ⟨by decide, by decide, by decide⟩ nx_X12 (fun ho q => ?_) (fun v ho => ?_)
  · refine VL_astore_n hX dX12_row_6 (by decide) rfl ?_
    refine VL_ldc2 (v := -7777777) hX dX12_row_7 cn_X12_15 ?_
    exact hE _ _ _ _ (by rw [ho]; rfl) dX12_row_10
  · exact hE _ _ _ _ (by rw [ho]; rfl) dX12_row_5
