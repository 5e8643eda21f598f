theorem nn {β : Type _} {r : β} {P : Prop} (h : (none : Option β) = some r) : P := by cases h
theorem ite_t {β : Type _} {c : Prop} [Decidable c] {a b : Option β} {r : β} (h : c) (e : (if c then a else b) = some r) : a = some r := by rw [if_pos h] at e; exact e
theorem ite_f {β : Type _} {c : Prop} [Decidable c] {a b : Option β} {r : β} (h : ¬ c) (e : (if c then a else b) = some r) : b = some r := by rw [if_neg h] at e; exact e
theorem V_selT {X : Cx} {S : Sx} {w : Wd} {pc : Nat} {lv : List (Nat × Value)} {st : List Value} {c : Prop} [Decidable c] {a b : Int32} (h : c) (k : V X S w pc lv (.int (if c then a else b) :: st)) : V X S w pc lv (.int a :: st) := by rw [if_pos h] at k; exact k
theorem V_selF {X : Cx} {S : Sx} {w : Wd} {pc : Nat} {lv : List (Nat × Value)} {st : List Value} {c : Prop} [Decidable c] {a b : Int32} (h : ¬ c) (k : V X S w pc lv (.int (if c then a else b) :: st)) : V X S w pc lv (.int b :: st) := by rw [if_neg h] at k; exact k
theorem V_selTl {X : Cx} {S : Sx} {w : Wd} {pc : Nat} {lv : List (Nat × Value)} {st : List Value} {c : Prop} [Decidable c] {a b : Int64} (h : c) (k : V X S w pc lv (.long (if c then a else b) :: st)) : V X S w pc lv (.long a :: st) := by rw [if_pos h] at k; exact k
theorem V_selFl {X : Cx} {S : Sx} {w : Wd} {pc : Nat} {lv : List (Nat × Value)} {st : List Value} {c : Prop} [Decidable c] {a b : Int64} (h : ¬ c) (k : V X S w pc lv (.long (if c then a else b) :: st)) : V X S w pc lv (.long b :: st) := by rw [if_neg h] at k; exact k
theorem i32_ofInt (x : Int32) : Int32.ofInt x.toInt = x := by simp
theorem ts_out {x : Int32} {lo hi : Int} (h : ∀ k : Int, lo ≤ k → k ≤ hi → ¬ x = Int32.ofInt k) : x.toInt < lo ∨ hi < x.toInt := by
  by_cases h1 : x.toInt < lo
  · exact Or.inl h1
  · by_cases h2 : hi < x.toInt
    · exact Or.inr h2
    · exact absurd (i32_ofInt x).symm (h x.toInt (by omega) (by omega))
theorem i32_ext {x y : Int32} (h : x.toInt = y.toInt) : x = y := by rw [← i32_ofInt x, ← i32_ofInt y, h]
-- texts
def isStr (k : Nat) : Bool := decide (k < 14)
def strL (k : Nat) : Nat := lenS.getD k 0
def strB (k j : Nat) : Int32 := (bytS.getD k []).getD j 0
def isChr (x : Int32) : Bool := decide (vp_nar .char x = x)
def isByt (x : Int32) : Bool := decide (vp_nar .byte x = x)
theorem nar_c {x : Int32} (h : isChr x = true) : narrow .char (.int x) = .int x := by
  have h1 : vp_nar .char x = x := of_decide_eq_true h
  show Value.int (vp_nar .char x) = _
  rw [h1]
theorem nar_b {x : Int32} (h : isByt x = true) : narrow .byte (.int x) = .int x := by
  have h1 : vp_nar .byte x = x := of_decide_eq_true h
  show Value.int (vp_nar .byte x) = _
  rw [h1]
theorem lk_out {ps : List (Int × Int)} {df k : Int} (h : ∀ q ∈ ps, ¬ k = q.1) : Op.lookupswitch.offset ps df k = df := by
  induction ps with
  | nil => rfl
  | cons q l ih =>
    obtain ⟨a, o⟩ := q
    rw [Op.lookupswitch.offset_cons, if_neg (fun e => h (a, o) List.mem_cons_self e.symm)]
    exact ih (fun q hq => h q (List.mem_cons_of_mem _ hq))
def HRxi (X : Cx) (S : Sx) (cc : ByteArray) (r : Option Int32 × Wd) : Prop := (∀ (v : Int32) (w : Wd) (pc : Nat) (lv : List (Nat × Value)), (some v, w) = r → decode cc pc = .ok (.ireturn, 1) → V X S w pc lv [.int v]) ∧ (∀ (w : Wd) (pc : Nat) (lv : List (Nat × Value)) (ix : Nat), (none, w) = r → decode cc pc = .ok (.new ix, 3) → V X S w pc lv [])
def HRxl (X : Cx) (S : Sx) (cc : ByteArray) (r : Option Int64 × Wd) : Prop := (∀ (v : Int64) (w : Wd) (pc : Nat) (lv : List (Nat × Value)), (some v, w) = r → decode cc pc = .ok (.lreturn, 1) → V X S w pc lv [.long v]) ∧ (∀ (w : Wd) (pc : Nat) (lv : List (Nat × Value)) (ix : Nat), (none, w) = r → decode cc pc = .ok (.new ix, 3) → V X S w pc lv [])
theorem isStr_lt {k : Nat} (h : isStr k = true) : k < 14 := of_decide_eq_true h
-- whole rows of ints
def sA (w : Wd) (a : Nat) (f : Nat → Int32) : Wd := (va_up w.1 a f, w.2.1, w.2.2)
theorem wsOf_sA {S : Sx} {w : Wd} {i : Nat} {f : Nat → Int32} {t : CellF} {e : va_E} (h : (tab S)[i]? = some t) (he : t f (w.2.1 i) (w.2.2 i) = e) : (wsOf S w).set i (adr S i, e) = wsOf S (sA w i f) := by
  apply List.ext_getElem?
  intro j
  rw [List.getElem?_set]
  unfold wsOf
  rw [List.getElem?_mapIdx, List.getElem?_mapIdx]
  by_cases hj : i = j
  · subst hj
    have hl := (List.getElem?_eq_some_iff.mp h).1
    rw [if_pos rfl, if_pos (by rw [List.length_mapIdx]; exact hl), h]
    show some _ = some _
    rw [← he]
    show some (adr S i, t _ _ _) = some (adr S i, t (va_up w.1 i f i) (w.2.1 i) (w.2.2 i))
    rw [show va_up w.1 i f i = f from by unfold va_up; rw [if_pos rfl]]
  · rw [if_neg hj]
    cases ht : (tab S)[j]? with
    | none => rfl
    | some t2 =>
      show some (adr S j, t2 _ _ _) = some (adr S j, t2 (va_up w.1 i f j) (w.2.1 j) (w.2.2 j))
      rw [show va_up w.1 i f j = w.1 j from by unfold va_up; rw [if_neg (Ne.symm hj)]]
section RULES2
variable {X : Cx} {S : Sx} {cc : ByteArray} {own : String} {nL : Nat} {rm : Room} {w : Wd} {pc : Nat} {lv lv' : List (Nat × Value)} {st : List Value}
theorem V_getsC (hX : Ok X S cc RJ0 nL rm) (d : decode cc pc = .ok (.getstatic 38, 3)) (kk : V X S w (pc + 3) lv (.int 1 :: st)) : V X S w pc lv st := by
  obtain ⟨p, l, e, R, s, m, args, below, meth, c, Q⟩ := X
  obtain ⟨h1, h2, h3, h4, h5, h6, h7⟩ := hX
  exact fun H locs ls hP hS hl => va_gets h1 h2 h7.2.2.2.2.1 hS h5 (h6 _ fk_J0_38) (fun _ h9 => h9) d (kk H locs ls hP hS hl)
theorem V_getsF (hX : Ok X S cc RJ0 nL rm) (d : decode cc pc = .ok (.getstatic 1053, 3)) (kk : V X S w (pc + 3) lv (fmV S :: st)) : V X S w pc lv st := by
  obtain ⟨p, l, e, R, s, m, args, below, meth, c, Q⟩ := X
  obtain ⟨h1, h2, h3, h4, h5, h6, h7⟩ := hX
  exact fun H locs ls hP hS hl => va_gets h1 h2 h7.2.2.2.2.2 hS h5 (h6 _ fk_J0_1053) (fun _ h9 => h9) d (kk H locs ls hP hS hl)
theorem V_strVal {k : Nat} (hX : Ok X S cc RJ0 nL rm) (hk : isStr k = true) (d : decode cc pc = .ok (.getfield 9, 3)) (kk : V X S w (pc + 3) lv (.ref (adV S k) :: st)) : V X S w pc lv (.ref (adK S k) :: st) := by
  obtain ⟨p, l, e, R, s, m, args, below, meth, c, Q⟩ := X
  obtain ⟨h1, h2, h3, h4, h5, h6, h7⟩ := hX
  exact fun H locs ls hP hS hl => vk_getf h1 h2 (h7.2.2.1.1 k (isStr_lt hk)).2.2.1 hS h5 (h6 _ fk_J0_9) (fun _ h9 => h9) d (kk H locs ls hP hS hl)
theorem V_strCod {k : Nat} (hX : Ok X S cc RJ0 nL rm) (hk : isStr k = true) (d : decode cc pc = .ok (.getfield 15, 3)) (kk : V X S w (pc + 3) lv (.int 0 :: st)) : V X S w pc lv (.ref (adK S k) :: st) := by
  obtain ⟨p, l, e, R, s, m, args, below, meth, c, Q⟩ := X
  obtain ⟨h1, h2, h3, h4, h5, h6, h7⟩ := hX
  exact fun H locs ls hP hS hl => vk_getf h1 h2 (h7.2.2.1.1 k (isStr_lt hk)).2.1 hS h5 (h6 _ fk_J0_15) (fun _ h9 => h9) d (kk H locs ls hP hS hl)
theorem V_strLen {k : Nat} (hX : Ok X S cc own nL rm) (hk : isStr k = true) (d : decode cc pc = .ok (.arraylength, 1)) (kk : V X S w (pc + 1) lv (.int (nI (strL k)) :: st)) : V X S w pc lv (.ref (adV S k) :: st) := by
  obtain ⟨p, l, e, R, s, m, args, below, meth, c, Q⟩ := X
  obtain ⟨h1, h2, h3, h4, h5, h6, h7⟩ := hX
  exact fun H locs ls hP hS hl => va_tlen h1 h2 (h7.2.2.1.1 k (isStr_lt hk)).2.2.2 hS rfl d (kk H locs ls hP hS hl)
theorem V_strByte {k : Nat} {j : Int32} (hX : Ok X S cc own nL rm) (hk : isStr k = true) (hin : inB j (strL k) = true) (d : decode cc pc = .ok (.baload, 1)) (kk : V X S w (pc + 1) lv (.int (strB k j.toNatClampNeg) :: st)) : V X S w pc lv (.int j :: .ref (adV S k) :: st) := by
  obtain ⟨p, l, e, R, s, m, args, below, meth, c, Q⟩ := X
  obtain ⟨h1, h2, h3, h4, h5, h6, h7⟩ := hX
  exact fun H locs ls hP hS hl => va_tb h1 h2 (h7.2.2.1.1 k (isStr_lt hk)).2.2.2 hS (inB_in hin) rfl d (kk H locs ls hP hS hl)
theorem V_callTi {index maxL n k : Nat} {y : MethodName} {bytes : ByteArray} {ret : Option FieldType} {rmc : Room} {rest As : List Value} {v : Int32} {w2 : Wd} (hX : Ok X S cc own nL rm) (hk : MVk own index RJ0 y bytes maxL ret) (hy : MNk y RJ0 n) (hM : ∀ l, Met l y (wsg y bytes maxL ret) rmc (PC S w (.ref (adK S k) :: As)) (QCi S (v, w2)) 0 0 (Aw S)) (hs : isStr k = true) (hR : RMk rmc rm maxL) (hn : As.length = n) (hst : st = As.reverse ++ .ref (adK S k) :: rest) (hW : (rest.map fun v => v.category).sum ≤ 8) (d : decode cc pc = .ok (.invokevirtual index, 3)) (kk : V X S w2 (pc + 3) lv (.int v :: rest)) : V X S w pc lv st := by
  subst hst
  obtain ⟨p, l, e, R, s, m, args, below, meth, c, Q⟩ := X
  obtain ⟨h1, h2, h3, rfl, h5, h6, h7⟩ := hX
  obtain ⟨r1, r2, r3, r4⟩ := hR
  obtain ⟨y1, y2, y3, y4⟩ := hy
  intro H locs ls hP hS hl
  refine va_calli (va_runV (As := As) (rest := rest) ⟨h1, h2, h3, h5, h6⟩ (hM l) (cwV n h6 (wsV_in hk) rfl r1 r2 ⟨y1, y2, y3, y4⟩ ⟨r3, r4⟩) ⟨PC.blind, vk_recv h7.2.2.1 (isStr_lt hs) hS, fun U hU hW => ⟨rfl, by rw [hU]; exact hP, h7.to hW (fun q a b => by rw [hU]; exact hS.2.1 q a b)⟩⟩ rfl hn (hl.1.trans h3) rfl (lv_room hW) d ⟨Nat.zero_le _, Nat.zero_le _⟩) hS (fun q _ h => h) (fun q h => h) (fun r u t H1 locs1 ht2 hvm hp hb hz hk2 hS1 => ?_)
  cases hp
  exact kk H1 locs1 ls (by rw [← ht2]; exact hb) hS1 hl
end RULES2
-- rooms that grow with the depth
def RMr (rm rmc : Room) : Prop := rmc.cells = 0 ∧ rmc.slots = 0 ∧ rmc.frames + 1 ≤ rm.frames ∧ 100 + rmc.locals ≤ rm.locals ∧ 50 ≤ rm.frames ∧ 3500 ≤ rm.locals
abbrev rmD (n : Nat) : Room := { frames := 50 + n, cells := 0, slots := 0, locals := 3500 + 100 * n }
theorem rmD_r (n : Nat) : RMr (rmD (n + 1)) (rmD n) := ⟨rfl, rfl, Nat.le_refl _, by show 100 + (3500 + 100 * n) ≤ 3500 + 100 * (n + 1); omega, by show 50 ≤ 50 + (n + 1); omega, by show 3500 ≤ 3500 + 100 * (n + 1); omega⟩
theorem rm_math {rm rmc : Room} (h : RMr rm rmc) {n : Nat} (hn : n ≤ 3500) : 1 ≤ rm.frames ∧ n ≤ rm.locals := ⟨Nat.le_trans (by decide) h.2.2.2.2.1, Nat.le_trans hn h.2.2.2.2.2⟩
theorem rm_call {rm rmc r : Room} {k : Nat} (h : RMr rm rmc) (h1 : r.cells = 0) (h2 : r.slots = 0) (h3 : r.frames + 1 ≤ 50) (h4 : 8 + (k + 11) + r.locals ≤ 3500) : RMk r rm k := ⟨h1, h2, Nat.le_trans h3 h.2.2.2.2.1, Nat.le_trans h4 h.2.2.2.2.2⟩
theorem rm_rec {rm rmc : Room} {k : Nat} (h : RMr rm rmc) (hk : 8 + (k + 11) ≤ 100) : RMk rmc rm k := ⟨h.1, h.2.1, h.2.2.1, Nat.le_trans (Nat.add_le_add_right hk _) h.2.2.2.1⟩
