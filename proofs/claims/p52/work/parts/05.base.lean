-- ===== the world as three functions, by place and slot: ints, longs, references that move =====
abbrev Wd : Type := (Nat → Nat → Int32) × (Nat → Nat → Int64) × (Nat → Nat → Nat)
def gI (w : Wd) (a k : Nat) : Int32 := w.1 a k
def gJ (w : Wd) (a k : Nat) : Int64 := w.2.1 a k
def gR (w : Wd) (a k : Nat) : Nat := w.2.2 a k
def sI (w : Wd) (a k : Nat) (v : Int32) : Wd := (va_up w.1 a (upd (w.1 a) k v), w.2.1, w.2.2)
def sJ (w : Wd) (a k : Nat) (v : Int64) : Wd := (w.1, va_up w.2.1 a (vp_updL (w.2.1 a) k v), w.2.2)
def sR (w : Wd) (a k : Nat) (v : Nat) : Wd := (w.1, w.2.1, va_up w.2.2 a (va_up (w.2.2 a) k v))
-- the program's own words
def lt {α β : Sort _} (v : α) (f : α → β) : β := f v
def gd {β : Type _} (c : Bool) (x : Option β) : Option β := if c = true then x else none
def bnd {α β : Type _} (o : Option (α × Wd)) (f : α → Wd → Option β) : Option β := match o with
  | some (v, w) => f v w
  | none => none
def bnv {β : Type _} (o : Option Wd) (f : Wd → Option β) : Option β := match o with
  | some w => f w
  | none => none
theorem lt_e {α β : Type _} {v : α} {f : α → β} {r : β} (h : lt v f = r) : ∃ y, y = v ∧ f y = r := ⟨v, rfl, h⟩
theorem lt_r {α β : Type _} {v y : α} {f : α → β} {r : β} (e : y = v) (h : lt v f = r) : f y = r := by rw [e]; exact h
theorem gd_e {β : Type _} {c : Bool} {x : Option β} {r : β} (h : gd c x = some r) : c = true ∧ x = some r := by
  unfold gd at h
  by_cases hc : c = true
  · rw [if_pos hc] at h; exact ⟨hc, h⟩
  · rw [if_neg hc] at h; cases h
theorem bnd_e {α β : Type _} {o : Option (α × Wd)} {f : α → Wd → Option β} {r : β} (h : bnd o f = some r) : ∃ v w, o = some (v, w) ∧ f v w = some r := by
  cases o with
  | none => cases h
  | some q => exact ⟨q.1, q.2, rfl, h⟩
theorem bnv_e {β : Type _} {o : Option Wd} {f : Wd → Option β} {r : β} (h : bnv o f = some r) : ∃ w, o = some w ∧ f w = some r := by
  cases o with
  | none => cases h
  | some q => exact ⟨q, rfl, h⟩
def inB (i : Int32) (n : Nat) : Bool := !(decide (i < 0) || decide (n ≤ i.toNatClampNeg))
def neZ (i : Int32) : Bool := !(decide (i = 0))
def neZL (i : Int64) : Bool := !(decide (i = 0))
def isZO (i : Int32) : Bool := decide (i = 0) || decide (i = 1)
theorem inB_in {i : Int32} {n : Nat} (h : inB i n = true) : vp_in i n := by
  unfold inB at h
  intro q
  rcases q with q | q <;> simp [q] at h
theorem neZ_ne {i : Int32} (h : neZ i = true) : ¬ i = 0 := by
  unfold neZ at h
  intro q
  simp [q] at h
theorem neZL_ne {i : Int64} (h : neZL i = true) : ¬ i = 0 := by
  unfold neZL at h
  intro q
  simp [q] at h
theorem isZO_or {i : Int32} (h : isZO i = true) : i = 0 ∨ i = 1 := by
  unfold isZO at h
  simpa using h
def iremI (x y : Int32) : Int32 := x - x / y * y
def lremL (x y : Int64) : Int64 := x - x / y * y
def ishlI (x y : Int32) : Int32 := x <<< (y &&& 31)
def ishrI (x y : Int32) : Int32 := x >>> (y &&& 31)
def iushrI (x y : Int32) : Int32 := (x.toUInt32 >>> (y.toUInt32 &&& Int32.toUInt32 31)).toInt32
def maxI (x y : Int32) : Int32 := if x < y then y else x
def minI (x y : Int32) : Int32 := if y < x then y else x
def i2bI (x : Int32) : Int32 := x.toInt8.toInt32
def i2sI (x : Int32) : Int32 := x.toInt16.toInt32
def i2cI (x : Int32) : Int32 := (x.toUInt32 % 65536).toInt32
-- ===== the words =====
def wsg (y : MethodName) (cc : ByteArray) (n : Nat) (ret : Option FieldType) : List Cond := Cond.code y cc n ret :: wall
theorem wsg_in {y y2 : MethodName} {cc cc2 : ByteArray} {n n2 : Nat} {ret ret2 : Option FieldType} (h : Cond.code y2 cc2 n2 ret2 ∈ wall) : GoodIn (wsg y cc n ret) (wsg y2 cc2 n2 ret2) := by
  intro w hw
  rcases List.mem_cons.mp hw with rfl | h'
  · exact ⟨List.mem_cons_of_mem _ h, good_of_word (wall_good h)⟩
  · exact ⟨List.mem_cons_of_mem _ h', good_of_word (wall_good h')⟩
theorem wall_to {y2 : MethodName} {cc2 : ByteArray} {n2 : Nat} {ret2 : Option FieldType} (h : Cond.code y2 cc2 n2 ret2 ∈ wall) : GoodIn wall (wsg y2 cc2 n2 ret2) := by
  intro w hw
  rcases List.mem_cons.mp hw with rfl | h'
  · exact ⟨h, good_of_word (wall_good h)⟩
  · exact ⟨h', good_of_word (wall_good h')⟩
-- ===== what stands still, and the machine's frame =====
/-- the classes' numbers and slots; the places' addresses; the array classes; the strings' addresses, their bytes'; a static that is only handed on -/
abbrev Sx : Type := va_G × (Nat → Nat) × (Nat → ClassId) × (Nat → Nat) × (Nat → Nat) × Option Nat
def adr (S : Sx) (i : Nat) : Nat := S.2.1 i
abbrev rf (S : Sx) (i : Nat) : Value := Value.ref (adr S i)
def cAr (S : Sx) (i : Nat) : ClassId := S.2.2.1 i
def adK (S : Sx) (i : Nat) : Nat := S.2.2.2.1 i
def adV (S : Sx) (i : Nat) : Nat := S.2.2.2.2.1 i
def fmV (S : Sx) : Value := match S.2.2.2.2.2 with
  | none => .null
  | some a => .ref a
theorem fm_cases (S : Sx) : fmV S = .null ∨ ∃ a, fmV S = .ref a := by
  unfold fmV
  cases S.2.2.2.2.2 with
  | none => exact .inl rfl
  | some a => exact .inr ⟨a, rfl⟩
abbrev CellF : Type := (Nat → Int32) → (Nat → Int64) → (Nat → Nat) → va_E
def cO (ci : Nat) (fs : (Nat → Int32) → (Nat → Int64) → (Nat → Nat) → List Value) : CellF := fun I J R => .inr (ci, fs I J R)
def cI (S : Sx) (n : Nat) : CellF := fun I _ _ => .inl (cAr S 0, (n, .inl I))
def cJ (S : Sx) (n : Nat) : CellF := fun _ J _ => .inl (cAr S 1, (n, .inr (.inl J)))
def cZ (S : Sx) (n : Nat) : CellF := fun I _ _ => .inl (cAr S 2, (n, .inl I))
def cB (S : Sx) (n base : Nat) : CellF := fun _ _ _ => .inl (cAr S 3, (n, .inr (.inr (.inr (.inr (fun j => some (adr S (base + 2 * j))))))))
def NC : Nat := 88
def bellL : List Nat := [23, 25, 27, 31, 33, 35, 37, 39, 41, 43, 45, 47, 49, 51, 53, 55, 57, 59, 66, 68, 70, 72, 74, 82, 84, 86]
def lawL : List Nat := [12, 18]
def rollL : List Nat := [6, 9]
def towerL : List Nat := [5, 17]
def isX1 (a : Nat) : Bool := bellL.contains a
def isX2 (a : Nat) : Bool := lawL.contains a
def isX5 (a : Nat) : Bool := rollL.contains a
def isX9 (a : Nat) : Bool := towerL.contains a
def iaL : List Nat := [2, 7, 8, 10, 11, 13, 14, 15, 16, 19, 20, 21, 22, 24, 26, 28, 32, 34, 36, 38, 40, 42, 44, 46, 48, 50, 52, 54, 56, 58, 60, 64, 65, 67, 69, 71, 73, 75, 77, 78, 79, 80, 81, 83, 85, 87]
def isIA (a : Nat) : Bool := iaL.contains a
def alenL : List Nat := [0, 0, 80, 0, 0, 0, 0, 8, 8, 0, 8, 8, 0, 40, 7, 41, 40, 0, 0, 40, 7, 41, 40, 0, 8, 0, 8, 0, 8, 0, 0, 0, 8, 0, 8, 0, 8, 0, 8, 0, 8, 0, 8, 0, 8, 0, 8, 0, 8, 0, 8, 0, 8, 0, 8, 0, 8, 0, 8, 0, 8, 0, 0, 0, 4, 4, 0, 8, 0, 8, 0, 8, 0, 8, 0, 8, 0, 12, 12, 12, 48, 48, 0, 8, 0, 8, 0, 8]
def alen (a : Nat) : Nat := alenL.getD a 0
def fsX1 (S : Sx) (a : Nat) : (Nat → Int32) → (Nat → Int64) → (Nat → Nat) → List Value := fun I J R => [rf S (a + 1), .int (I 1), .int (I 2), .int (I 3), .int (I 4), .int (I 5), .int (I 6), .int (I 7), .int (I 8)]
def fsX2 (S : Sx) (a : Nat) : (Nat → Int32) → (Nat → Int64) → (Nat → Nat) → List Value := fun I J R => [rf S (a + 1), .int (I 1), rf S (a + 2), rf S (a + 3), rf S (a + 4), .int (I 5), .int (I 6), .int (I 7), .int (I 8), .int (I 9)]
def fsX3 (S : Sx) (a : Nat) : (Nat → Int32) → (Nat → Int64) → (Nat → Nat) → List Value := fun I J R => [rf S 77, rf S 78, rf S 79, .int (I 3), rf S 80, rf S 81]
def fsX4 (S : Sx) (a : Nat) : (Nat → Int32) → (Nat → Int64) → (Nat → Nat) → List Value := fun I J R => [rf S 30, .int (I 1), .int (I 2)]
def fsX5 (S : Sx) (a : Nat) : (Nat → Int32) → (Nat → Int64) → (Nat → Nat) → List Value := fun I J R => [rf S (a + 1), rf S (a + 2), .int (I 2)]
def fsX6 (S : Sx) (a : Nat) : (Nat → Int32) → (Nat → Int64) → (Nat → Nat) → List Value := fun I J R => [rf S 63, rf S 64, rf S 65]
def fsX7 (S : Sx) (a : Nat) : (Nat → Int32) → (Nat → Int64) → (Nat → Nat) → List Value := fun I J R => [rf S 4, .int (I 1)]
def fsX8 (S : Sx) (a : Nat) : (Nat → Int32) → (Nat → Int64) → (Nat → Nat) → List Value := fun I J R => [rf S 2, .int (I 1)]
def fsX9 (S : Sx) (a : Nat) : (Nat → Int32) → (Nat → Int64) → (Nat → Nat) → List Value := fun I J R => [rf S 6, rf S 9, rf S (R 2), .int (I 3), .int (I 4), .int (I 5)]
def fsX10 (S : Sx) (a : Nat) : (Nat → Int32) → (Nat → Int64) → (Nat → Nat) → List Value := fun I J R => [rf S 1, rf S 3, rf S 5, rf S 17, rf S (R 4), rf S 23, rf S 25, rf S 27, rf S 29, rf S 61, .int (I 10), rf S 62, rf S 76]
def tab (S : Sx) : List CellF := [cO 12 (fsX10 S 0), cO 10 (fsX8 S 1), cI S 80, cO 9 (fsX7 S 3), cJ S 6, cO 11 (fsX9 S 5), cO 7 (fsX5 S 6), cI S 8, cI S 8, cO 7 (fsX5 S 9), cI S 8, cI S 8, cO 4 (fsX2 S 12), cI S 40, cI S 7, cI S 41, cI S 40, cO 11 (fsX9 S 17), cO 4 (fsX2 S 18), cI S 40, cI S 7, cI S 41, cI S 40, cO 3 (fsX1 S 23), cI S 8, cO 3 (fsX1 S 25), cI S 8, cO 3 (fsX1 S 27), cI S 8, cO 6 (fsX4 S 29), cB S 15 31, cO 3 (fsX1 S 31), cI S 8, cO 3 (fsX1 S 33), cI S 8, cO 3 (fsX1 S 35), cI S 8, cO 3 (fsX1 S 37), cI S 8, cO 3 (fsX1 S 39), cI S 8, cO 3 (fsX1 S 41), cI S 8, cO 3 (fsX1 S 43), cI S 8, cO 3 (fsX1 S 45), cI S 8, cO 3 (fsX1 S 47), cI S 8, cO 3 (fsX1 S 49), cI S 8, cO 3 (fsX1 S 51), cI S 8, cO 3 (fsX1 S 53), cI S 8, cO 3 (fsX1 S 55), cI S 8, cO 3 (fsX1 S 57), cI S 8, cO 3 (fsX1 S 59), cI S 8, cB S 3 82, cO 8 (fsX6 S 62), cB S 5 66, cI S 4, cI S 4, cO 3 (fsX1 S 66), cI S 8, cO 3 (fsX1 S 68), cI S 8, cO 3 (fsX1 S 70), cI S 8, cO 3 (fsX1 S 72), cI S 8, cO 3 (fsX1 S 74), cI S 8, cO 5 (fsX3 S 76), cI S 12, cI S 12, cI S 12, cI S 48, cI S 48, cO 3 (fsX1 S 82), cI S 8, cO 3 (fsX1 S 84), cI S 8, cO 3 (fsX1 S 86), cI S 8]
theorem tb_0 {S : Sx} : (tab S)[0]? = some (cO 12 (fsX10 S 0)) := rfl
theorem tb_1 {S : Sx} : (tab S)[1]? = some (cO 10 (fsX8 S 1)) := rfl
theorem tb_2 {S : Sx} : (tab S)[2]? = some (cI S 80) := rfl
theorem tb_3 {S : Sx} : (tab S)[3]? = some (cO 9 (fsX7 S 3)) := rfl
theorem tb_4 {S : Sx} : (tab S)[4]? = some (cJ S 6) := rfl
theorem tb_5 {S : Sx} : (tab S)[5]? = some (cO 11 (fsX9 S 5)) := rfl
theorem tb_6 {S : Sx} : (tab S)[6]? = some (cO 7 (fsX5 S 6)) := rfl
theorem tb_7 {S : Sx} : (tab S)[7]? = some (cI S 8) := rfl
theorem tb_8 {S : Sx} : (tab S)[8]? = some (cI S 8) := rfl
theorem tb_9 {S : Sx} : (tab S)[9]? = some (cO 7 (fsX5 S 9)) := rfl
theorem tb_10 {S : Sx} : (tab S)[10]? = some (cI S 8) := rfl
theorem tb_11 {S : Sx} : (tab S)[11]? = some (cI S 8) := rfl
theorem tb_12 {S : Sx} : (tab S)[12]? = some (cO 4 (fsX2 S 12)) := rfl
theorem tb_13 {S : Sx} : (tab S)[13]? = some (cI S 40) := rfl
theorem tb_14 {S : Sx} : (tab S)[14]? = some (cI S 7) := rfl
theorem tb_15 {S : Sx} : (tab S)[15]? = some (cI S 41) := rfl
theorem tb_16 {S : Sx} : (tab S)[16]? = some (cI S 40) := rfl
theorem tb_17 {S : Sx} : (tab S)[17]? = some (cO 11 (fsX9 S 17)) := rfl
theorem tb_18 {S : Sx} : (tab S)[18]? = some (cO 4 (fsX2 S 18)) := rfl
theorem tb_19 {S : Sx} : (tab S)[19]? = some (cI S 40) := rfl
theorem tb_20 {S : Sx} : (tab S)[20]? = some (cI S 7) := rfl
theorem tb_21 {S : Sx} : (tab S)[21]? = some (cI S 41) := rfl
theorem tb_22 {S : Sx} : (tab S)[22]? = some (cI S 40) := rfl
theorem tb_23 {S : Sx} : (tab S)[23]? = some (cO 3 (fsX1 S 23)) := rfl
theorem tb_24 {S : Sx} : (tab S)[24]? = some (cI S 8) := rfl
theorem tb_25 {S : Sx} : (tab S)[25]? = some (cO 3 (fsX1 S 25)) := rfl
theorem tb_26 {S : Sx} : (tab S)[26]? = some (cI S 8) := rfl
theorem tb_27 {S : Sx} : (tab S)[27]? = some (cO 3 (fsX1 S 27)) := rfl
theorem tb_28 {S : Sx} : (tab S)[28]? = some (cI S 8) := rfl
theorem tb_29 {S : Sx} : (tab S)[29]? = some (cO 6 (fsX4 S 29)) := rfl
theorem tb_30 {S : Sx} : (tab S)[30]? = some (cB S 15 31) := rfl
theorem tb_31 {S : Sx} : (tab S)[31]? = some (cO 3 (fsX1 S 31)) := rfl
theorem tb_32 {S : Sx} : (tab S)[32]? = some (cI S 8) := rfl
theorem tb_33 {S : Sx} : (tab S)[33]? = some (cO 3 (fsX1 S 33)) := rfl
theorem tb_34 {S : Sx} : (tab S)[34]? = some (cI S 8) := rfl
theorem tb_35 {S : Sx} : (tab S)[35]? = some (cO 3 (fsX1 S 35)) := rfl
theorem tb_36 {S : Sx} : (tab S)[36]? = some (cI S 8) := rfl
theorem tb_37 {S : Sx} : (tab S)[37]? = some (cO 3 (fsX1 S 37)) := rfl
theorem tb_38 {S : Sx} : (tab S)[38]? = some (cI S 8) := rfl
theorem tb_39 {S : Sx} : (tab S)[39]? = some (cO 3 (fsX1 S 39)) := rfl
theorem tb_40 {S : Sx} : (tab S)[40]? = some (cI S 8) := rfl
theorem tb_41 {S : Sx} : (tab S)[41]? = some (cO 3 (fsX1 S 41)) := rfl
theorem tb_42 {S : Sx} : (tab S)[42]? = some (cI S 8) := rfl
theorem tb_43 {S : Sx} : (tab S)[43]? = some (cO 3 (fsX1 S 43)) := rfl
theorem tb_44 {S : Sx} : (tab S)[44]? = some (cI S 8) := rfl
theorem tb_45 {S : Sx} : (tab S)[45]? = some (cO 3 (fsX1 S 45)) := rfl
theorem tb_46 {S : Sx} : (tab S)[46]? = some (cI S 8) := rfl
theorem tb_47 {S : Sx} : (tab S)[47]? = some (cO 3 (fsX1 S 47)) := rfl
theorem tb_48 {S : Sx} : (tab S)[48]? = some (cI S 8) := rfl
theorem tb_49 {S : Sx} : (tab S)[49]? = some (cO 3 (fsX1 S 49)) := rfl
theorem tb_50 {S : Sx} : (tab S)[50]? = some (cI S 8) := rfl
theorem tb_51 {S : Sx} : (tab S)[51]? = some (cO 3 (fsX1 S 51)) := rfl
theorem tb_52 {S : Sx} : (tab S)[52]? = some (cI S 8) := rfl
theorem tb_53 {S : Sx} : (tab S)[53]? = some (cO 3 (fsX1 S 53)) := rfl
theorem tb_54 {S : Sx} : (tab S)[54]? = some (cI S 8) := rfl
theorem tb_55 {S : Sx} : (tab S)[55]? = some (cO 3 (fsX1 S 55)) := rfl
theorem tb_56 {S : Sx} : (tab S)[56]? = some (cI S 8) := rfl
theorem tb_57 {S : Sx} : (tab S)[57]? = some (cO 3 (fsX1 S 57)) := rfl
theorem tb_58 {S : Sx} : (tab S)[58]? = some (cI S 8) := rfl
theorem tb_59 {S : Sx} : (tab S)[59]? = some (cO 3 (fsX1 S 59)) := rfl
theorem tb_60 {S : Sx} : (tab S)[60]? = some (cI S 8) := rfl
theorem tb_61 {S : Sx} : (tab S)[61]? = some (cB S 3 82) := rfl
theorem tb_62 {S : Sx} : (tab S)[62]? = some (cO 8 (fsX6 S 62)) := rfl
theorem tb_63 {S : Sx} : (tab S)[63]? = some (cB S 5 66) := rfl
theorem tb_64 {S : Sx} : (tab S)[64]? = some (cI S 4) := rfl
theorem tb_65 {S : Sx} : (tab S)[65]? = some (cI S 4) := rfl
theorem tb_66 {S : Sx} : (tab S)[66]? = some (cO 3 (fsX1 S 66)) := rfl
theorem tb_67 {S : Sx} : (tab S)[67]? = some (cI S 8) := rfl
theorem tb_68 {S : Sx} : (tab S)[68]? = some (cO 3 (fsX1 S 68)) := rfl
theorem tb_69 {S : Sx} : (tab S)[69]? = some (cI S 8) := rfl
theorem tb_70 {S : Sx} : (tab S)[70]? = some (cO 3 (fsX1 S 70)) := rfl
theorem tb_71 {S : Sx} : (tab S)[71]? = some (cI S 8) := rfl
theorem tb_72 {S : Sx} : (tab S)[72]? = some (cO 3 (fsX1 S 72)) := rfl
theorem tb_73 {S : Sx} : (tab S)[73]? = some (cI S 8) := rfl
theorem tb_74 {S : Sx} : (tab S)[74]? = some (cO 3 (fsX1 S 74)) := rfl
theorem tb_75 {S : Sx} : (tab S)[75]? = some (cI S 8) := rfl
theorem tb_76 {S : Sx} : (tab S)[76]? = some (cO 5 (fsX3 S 76)) := rfl
theorem tb_77 {S : Sx} : (tab S)[77]? = some (cI S 12) := rfl
theorem tb_78 {S : Sx} : (tab S)[78]? = some (cI S 12) := rfl
theorem tb_79 {S : Sx} : (tab S)[79]? = some (cI S 12) := rfl
theorem tb_80 {S : Sx} : (tab S)[80]? = some (cI S 48) := rfl
theorem tb_81 {S : Sx} : (tab S)[81]? = some (cI S 48) := rfl
theorem tb_82 {S : Sx} : (tab S)[82]? = some (cO 3 (fsX1 S 82)) := rfl
theorem tb_83 {S : Sx} : (tab S)[83]? = some (cI S 8) := rfl
theorem tb_84 {S : Sx} : (tab S)[84]? = some (cO 3 (fsX1 S 84)) := rfl
theorem tb_85 {S : Sx} : (tab S)[85]? = some (cI S 8) := rfl
theorem tb_86 {S : Sx} : (tab S)[86]? = some (cO 3 (fsX1 S 86)) := rfl
theorem tb_87 {S : Sx} : (tab S)[87]? = some (cI S 8) := rfl
def wsOf (S : Sx) (w : Wd) : va_W := (tab S).mapIdx (fun i t => (adr S i, t (w.1 i) (w.2.1 i) (w.2.2 i)))
def tysOf (S : Sx) : List (ClassId × FieldType) := [(cAr S 0, .int), (cAr S 1, .long), (cAr S 2, .boolean), (cAr S 3, .object RX1)]
/-- the region that is ours -/
def Aw (S : Sx) : Nat → Prop := fun q => ∃ i, i < NC ∧ q = adr S i
def lenS : List Nat := [7, 0, 1, 1, 1, 1, 1, 7, 11, 9, 7, 10, 7, 10]
def bytS : List (List Int32) := [[115, 116, 110, 119, 102, 114, 109], [], [59], [116], [108], [99], [109], [115, 42, 56, 45, 116, 42, 50], [115, 42, 110, 42, 54, 45, 119, 42, 51, 45, 116], [114, 47, 53, 43, 115, 45, 102, 45, 116], [115, 42, 57, 45, 109, 45, 116], [40, 116, 60, 50, 48, 41, 42, 115, 45, 102], [115, 42, 115, 45, 116, 45, 119], [52, 48, 45, 116, 45, 119, 42, 50, 43, 110]]
/-- what stands still in a state -/
def Sw (S : Sx) (U : State) : Prop := va_K S.1 vwCl (tysOf S) U ∧ (∀ i j, i < NC → j < NC → adr S i = adr S j → i = j) ∧ vk_S 14 lenS bytS (adK S) (adV S) (Aw S) U U.heap ∧
  (vk_R RX2 75 "stnwfrm" (adK S 0) U ∧ vk_R RX12 161 "" (adK S 1) U ∧ vk_R RX12 240 ";" (adK S 2) U ∧ vk_R RX12 242 "t" (adK S 3) U ∧ vk_R RX12 244 "l" (adK S 4) U ∧ vk_R RX12 246 "c" (adK S 5) U ∧ vk_R RX12 248 "m" (adK S 6) U ∧ vk_R RX12 270 "s*8-t*2" (adK S 7) U ∧ vk_R RX12 272 "s*n*6-w*3-t" (adK S 8) U ∧ vk_R RX12 274 "r/5+s-f-t" (adK S 9) U ∧ vk_R RX12 276 "s*9-m-t" (adK S 10) U ∧ vk_R RX12 278 "(t<20)*s-f" (adK S 11) U ∧ vk_R RX12 280 "s*s-t-w" (adK S 12) U ∧ vk_R RX12 282 "40-t-w*2+n" (adK S 13) U) ∧
  va_Z "java/lang/String" "COMPACT_STRINGS" "Z" (.int 1) (Aw S) U U.heap ∧ va_Z "jdk/internal/util/Preconditions" "SIOOBE_FORMATTER" "Ljava/util/function/BiFunction;" (fmV S) (Aw S) U U.heap
theorem Sw.to {S : Sx} {s U : State} (h : Sw S s) (hW : s.WarmedH U.vm) (hq : ∀ q : Nat, q < s.heap.size → ¬ Aw S q → U.heap[q]? = s.heap[q]?) : Sw S U := by
  obtain ⟨h1, h2, h3, ⟨r0, r1, r2, r3, r4, r5, r6, r7, r8, r9, r10, r11, r12, r13⟩, h5, h6⟩ := h
  exact ⟨va_K.moved hW.alike h1, h2, (vk_S.moved hW.alike h3).kept hq, ⟨r0.warm hW, r1.warm hW, r2.warm hW, r3.warm hW, r4.warm hW, r5.warm hW, r6.warm hW, r7.warm hW, r8.warm hW, r9.warm hW, r10.warm hW, r11.warm hW, r12.warm hW, r13.warm hW⟩, (va_Z.moved hW.alike h5).kept hq, (va_Z.moved hW.alike h6).kept hq⟩
theorem Sw.calling {S : Sx} {U : State} (h : Sw S U) (g : JFrame) (mk : MethodId) (a : Array Value) : Sw S (U.calling g mk a) := by
  obtain ⟨h1, h2, h3, ⟨r0, r1, r2, r3, r4, r5, r6, r7, r8, r9, r10, r11, r12, r13⟩, h5, h6⟩ := h
  have hv : (U.calling g mk a).vm = U.vm := rfl
  have hA : U.vm.Alike (U.calling g mk a).vm := Vm.Alike.refl U.vm
  exact ⟨va_K.moved hA h1, h2, vk_S.moved hA h3, ⟨r0.same hv, r1.same hv, r2.same hv, r3.same hv, r4.same hv, r5.same hv, r6.same hv, r7.same hv, r8.same hv, r9.same hv, r10.same hv, r11.same hv, r12.same hv, r13.same hv⟩, va_Z.moved hA h5, va_Z.moved hA h6⟩
/-- a contract's start and ends -/
def PC (S : Sx) (w : Wd) (vs : List Value) : Array Value → State → Prop := va_Pc vs (fun U => va_P S.1 vwCl (wsOf S w) U.heap ∧ Sw S U)
theorem PC.blind {S : Sx} {w : Wd} {vs : List Value} : FrameBlind (PC S w vs) := fun a U g mk h => ⟨h.1, h.2.1, h.2.2.calling g mk a⟩
def BW (S : Sx) (w : Wd) (t : State) : Prop := va_P S.1 vwCl (wsOf S w) t.heap
abbrev QCi (S : Sx) (r : Int32 × Wd) : Array Value → State → Outcome → State → Prop := va_Qi (S := Wd) (fun v u => (v, u) = r) (BW S) (Aw S)
abbrev QCl (S : Sx) (r : Int64 × Wd) : Array Value → State → Outcome → State → Prop := va_Ql (S := Wd) (fun v u => (v, u) = r) (BW S) (Aw S)
abbrev QCv (S : Sx) (r : Wd) : Array Value → State → Outcome → State → Prop := va_Qv (S := Wd) (fun u => u = r) (BW S) (Aw S)
theorem wsOf_get {S : Sx} {w : Wd} {i : Nat} {t : CellF} (h : (tab S)[i]? = some t) : (wsOf S w)[i]? = some (adr S i, t (w.1 i) (w.2.1 i) (w.2.2 i)) := by
  unfold wsOf
  rw [List.getElem?_mapIdx, h]
  rfl
theorem tb_X1 {S : Sx} {a : Nat} (h : isX1 a = true) : (tab S)[a]? = some (cO 3 (fsX1 S a)) := by
  have h : a ∈ ([23, 25, 27, 31, 33, 35, 37, 39, 41, 43, 45, 47, 49, 51, 53, 55, 57, 59, 66, 68, 70, 72, 74, 82, 84, 86] : List Nat) := List.contains_iff_mem.mp h
  rcases List.mem_cons.mp h with rfl | h
  · rfl
  rcases List.mem_cons.mp h with rfl | h
  · rfl
  rcases List.mem_cons.mp h with rfl | h
  · rfl
  rcases List.mem_cons.mp h with rfl | h
  · rfl
  rcases List.mem_cons.mp h with rfl | h
  · rfl
  rcases List.mem_cons.mp h with rfl | h
  · rfl
  rcases List.mem_cons.mp h with rfl | h
  · rfl
  rcases List.mem_cons.mp h with rfl | h
  · rfl
  rcases List.mem_cons.mp h with rfl | h
  · rfl
  rcases List.mem_cons.mp h with rfl | h
  · rfl
  rcases List.mem_cons.mp h with rfl | h
  · rfl
  rcases List.mem_cons.mp h with rfl | h
  · rfl
  rcases List.mem_cons.mp h with rfl | h
  · rfl
  rcases List.mem_cons.mp h with rfl | h
  · rfl
  rcases List.mem_cons.mp h with rfl | h
  · rfl
  rcases List.mem_cons.mp h with rfl | h
  · rfl
  rcases List.mem_cons.mp h with rfl | h
  · rfl
  rcases List.mem_cons.mp h with rfl | h
  · rfl
  rcases List.mem_cons.mp h with rfl | h
  · rfl
  rcases List.mem_cons.mp h with rfl | h
  · rfl
  rcases List.mem_cons.mp h with rfl | h
  · rfl
  rcases List.mem_cons.mp h with rfl | h
  · rfl
  rcases List.mem_cons.mp h with rfl | h
  · rfl
  rcases List.mem_cons.mp h with rfl | h
  · rfl
  rcases List.mem_cons.mp h with rfl | h
  · rfl
  rcases List.mem_cons.mp h with rfl | h
  · rfl
  exact absurd h List.not_mem_nil
theorem tb_X2 {S : Sx} {a : Nat} (h : isX2 a = true) : (tab S)[a]? = some (cO 4 (fsX2 S a)) := by
  have h : a ∈ ([12, 18] : List Nat) := List.contains_iff_mem.mp h
  rcases List.mem_cons.mp h with rfl | h
  · rfl
  rcases List.mem_cons.mp h with rfl | h
  · rfl
  exact absurd h List.not_mem_nil
theorem tb_X5 {S : Sx} {a : Nat} (h : isX5 a = true) : (tab S)[a]? = some (cO 7 (fsX5 S a)) := by
  have h : a ∈ ([6, 9] : List Nat) := List.contains_iff_mem.mp h
  rcases List.mem_cons.mp h with rfl | h
  · rfl
  rcases List.mem_cons.mp h with rfl | h
  · rfl
  exact absurd h List.not_mem_nil
theorem tb_X9 {S : Sx} {a : Nat} (h : isX9 a = true) : (tab S)[a]? = some (cO 11 (fsX9 S a)) := by
  have h : a ∈ ([5, 17] : List Nat) := List.contains_iff_mem.mp h
  rcases List.mem_cons.mp h with rfl | h
  · rfl
  rcases List.mem_cons.mp h with rfl | h
  · rfl
  exact absurd h List.not_mem_nil
theorem tb_X1_1 {S : Sx} {a : Nat} (h : isX1 a = true) : (tab S)[a + 1]? = some (cI S 8) := by
  have h : a ∈ ([23, 25, 27, 31, 33, 35, 37, 39, 41, 43, 45, 47, 49, 51, 53, 55, 57, 59, 66, 68, 70, 72, 74, 82, 84, 86] : List Nat) := List.contains_iff_mem.mp h
  rcases List.mem_cons.mp h with rfl | h
  · rfl
  rcases List.mem_cons.mp h with rfl | h
  · rfl
  rcases List.mem_cons.mp h with rfl | h
  · rfl
  rcases List.mem_cons.mp h with rfl | h
  · rfl
  rcases List.mem_cons.mp h with rfl | h
  · rfl
  rcases List.mem_cons.mp h with rfl | h
  · rfl
  rcases List.mem_cons.mp h with rfl | h
  · rfl
  rcases List.mem_cons.mp h with rfl | h
  · rfl
  rcases List.mem_cons.mp h with rfl | h
  · rfl
  rcases List.mem_cons.mp h with rfl | h
  · rfl
  rcases List.mem_cons.mp h with rfl | h
  · rfl
  rcases List.mem_cons.mp h with rfl | h
  · rfl
  rcases List.mem_cons.mp h with rfl | h
  · rfl
  rcases List.mem_cons.mp h with rfl | h
  · rfl
  rcases List.mem_cons.mp h with rfl | h
  · rfl
  rcases List.mem_cons.mp h with rfl | h
  · rfl
  rcases List.mem_cons.mp h with rfl | h
  · rfl
  rcases List.mem_cons.mp h with rfl | h
  · rfl
  rcases List.mem_cons.mp h with rfl | h
  · rfl
  rcases List.mem_cons.mp h with rfl | h
  · rfl
  rcases List.mem_cons.mp h with rfl | h
  · rfl
  rcases List.mem_cons.mp h with rfl | h
  · rfl
  rcases List.mem_cons.mp h with rfl | h
  · rfl
  rcases List.mem_cons.mp h with rfl | h
  · rfl
  rcases List.mem_cons.mp h with rfl | h
  · rfl
  rcases List.mem_cons.mp h with rfl | h
  · rfl
  exact absurd h List.not_mem_nil
theorem tb_X2_1 {S : Sx} {a : Nat} (h : isX2 a = true) : (tab S)[a + 1]? = some (cI S 40) := by
  have h : a ∈ ([12, 18] : List Nat) := List.contains_iff_mem.mp h
  rcases List.mem_cons.mp h with rfl | h
  · rfl
  rcases List.mem_cons.mp h with rfl | h
  · rfl
  exact absurd h List.not_mem_nil
theorem tb_X2_2 {S : Sx} {a : Nat} (h : isX2 a = true) : (tab S)[a + 2]? = some (cI S 7) := by
  have h : a ∈ ([12, 18] : List Nat) := List.contains_iff_mem.mp h
  rcases List.mem_cons.mp h with rfl | h
  · rfl
  rcases List.mem_cons.mp h with rfl | h
  · rfl
  exact absurd h List.not_mem_nil
theorem tb_X2_3 {S : Sx} {a : Nat} (h : isX2 a = true) : (tab S)[a + 3]? = some (cI S 41) := by
  have h : a ∈ ([12, 18] : List Nat) := List.contains_iff_mem.mp h
  rcases List.mem_cons.mp h with rfl | h
  · rfl
  rcases List.mem_cons.mp h with rfl | h
  · rfl
  exact absurd h List.not_mem_nil
theorem tb_X2_4 {S : Sx} {a : Nat} (h : isX2 a = true) : (tab S)[a + 4]? = some (cI S 40) := by
  have h : a ∈ ([12, 18] : List Nat) := List.contains_iff_mem.mp h
  rcases List.mem_cons.mp h with rfl | h
  · rfl
  rcases List.mem_cons.mp h with rfl | h
  · rfl
  exact absurd h List.not_mem_nil
theorem tb_X5_1 {S : Sx} {a : Nat} (h : isX5 a = true) : (tab S)[a + 1]? = some (cI S 8) := by
  have h : a ∈ ([6, 9] : List Nat) := List.contains_iff_mem.mp h
  rcases List.mem_cons.mp h with rfl | h
  · rfl
  rcases List.mem_cons.mp h with rfl | h
  · rfl
  exact absurd h List.not_mem_nil
theorem tb_X5_2 {S : Sx} {a : Nat} (h : isX5 a = true) : (tab S)[a + 2]? = some (cI S 8) := by
  have h : a ∈ ([6, 9] : List Nat) := List.contains_iff_mem.mp h
  rcases List.mem_cons.mp h with rfl | h
  · rfl
  rcases List.mem_cons.mp h with rfl | h
  · rfl
  exact absurd h List.not_mem_nil
theorem tb_IA {S : Sx} {a : Nat} (h : isIA a = true) : (tab S)[a]? = some (cI S (alen a)) := by
  have h : a ∈ ([2, 7, 8, 10, 11, 13, 14, 15, 16, 19, 20, 21, 22, 24, 26, 28, 32, 34, 36, 38, 40, 42, 44, 46, 48, 50, 52, 54, 56, 58, 60, 64, 65, 67, 69, 71, 73, 75, 77, 78, 79, 80, 81, 83, 85, 87] : List Nat) := List.contains_iff_mem.mp h
  rcases List.mem_cons.mp h with rfl | h
  · rfl
  rcases List.mem_cons.mp h with rfl | h
  · rfl
  rcases List.mem_cons.mp h with rfl | h
  · rfl
  rcases List.mem_cons.mp h with rfl | h
  · rfl
  rcases List.mem_cons.mp h with rfl | h
  · rfl
  rcases List.mem_cons.mp h with rfl | h
  · rfl
  rcases List.mem_cons.mp h with rfl | h
  · rfl
  rcases List.mem_cons.mp h with rfl | h
  · rfl
  rcases List.mem_cons.mp h with rfl | h
  · rfl
  rcases List.mem_cons.mp h with rfl | h
  · rfl
  rcases List.mem_cons.mp h with rfl | h
  · rfl
  rcases List.mem_cons.mp h with rfl | h
  · rfl
  rcases List.mem_cons.mp h with rfl | h
  · rfl
  rcases List.mem_cons.mp h with rfl | h
  · rfl
  rcases List.mem_cons.mp h with rfl | h
  · rfl
  rcases List.mem_cons.mp h with rfl | h
  · rfl
  rcases List.mem_cons.mp h with rfl | h
  · rfl
  rcases List.mem_cons.mp h with rfl | h
  · rfl
  rcases List.mem_cons.mp h with rfl | h
  · rfl
  rcases List.mem_cons.mp h with rfl | h
  · rfl
  rcases List.mem_cons.mp h with rfl | h
  · rfl
  rcases List.mem_cons.mp h with rfl | h
  · rfl
  rcases List.mem_cons.mp h with rfl | h
  · rfl
  rcases List.mem_cons.mp h with rfl | h
  · rfl
  rcases List.mem_cons.mp h with rfl | h
  · rfl
  rcases List.mem_cons.mp h with rfl | h
  · rfl
  rcases List.mem_cons.mp h with rfl | h
  · rfl
  rcases List.mem_cons.mp h with rfl | h
  · rfl
  rcases List.mem_cons.mp h with rfl | h
  · rfl
  rcases List.mem_cons.mp h with rfl | h
  · rfl
  rcases List.mem_cons.mp h with rfl | h
  · rfl
  rcases List.mem_cons.mp h with rfl | h
  · rfl
  rcases List.mem_cons.mp h with rfl | h
  · rfl
  rcases List.mem_cons.mp h with rfl | h
  · rfl
  rcases List.mem_cons.mp h with rfl | h
  · rfl
  rcases List.mem_cons.mp h with rfl | h
  · rfl
  rcases List.mem_cons.mp h with rfl | h
  · rfl
  rcases List.mem_cons.mp h with rfl | h
  · rfl
  rcases List.mem_cons.mp h with rfl | h
  · rfl
  rcases List.mem_cons.mp h with rfl | h
  · rfl
  rcases List.mem_cons.mp h with rfl | h
  · rfl
  rcases List.mem_cons.mp h with rfl | h
  · rfl
  rcases List.mem_cons.mp h with rfl | h
  · rfl
  rcases List.mem_cons.mp h with rfl | h
  · rfl
  rcases List.mem_cons.mp h with rfl | h
  · rfl
  rcases List.mem_cons.mp h with rfl | h
  · rfl
  exact absurd h List.not_mem_nil
theorem tab_len (S : Sx) : (tab S).length = NC := rfl
theorem wsOf_D {S : Sx} {w : Wd} (h : ∀ i j, i < NC → j < NC → adr S i = adr S j → i = j) : va_D (Aw S) (wsOf S w) := by
  have key : ∀ (k : Nat) (q : Nat × va_E), (wsOf S w)[k]? = some q → k < NC ∧ q.1 = adr S k := by
    intro k q hk
    unfold wsOf at hk
    rw [List.getElem?_mapIdx] at hk
    cases ht : (tab S)[k]? with
    | none => rw [ht] at hk; cases hk
    | some t =>
      rw [ht] at hk
      cases hk
      exact ⟨by rw [← tab_len S]; exact (List.getElem?_eq_some_iff.mp ht).1, rfl⟩
  refine ⟨fun i j p q hi hj e => ?_, fun k q hk => ?_⟩
  · obtain ⟨a1, a2⟩ := key i p hi
    obtain ⟨b1, b2⟩ := key j q hj
    exact h i j a1 b1 (by rw [← a2, ← b2]; exact e)
  · obtain ⟨a1, a2⟩ := key k q hk
    exact ⟨k, a1, a2⟩
theorem wsOf_sI {S : Sx} {w : Wd} {i k : Nat} {v : Int32} {t : CellF} {e : va_E} (h : (tab S)[i]? = some t) (he : t (upd (w.1 i) k v) (w.2.1 i) (w.2.2 i) = e) : (wsOf S w).set i (adr S i, e) = wsOf S (sI w i k v) := by
  apply List.ext_getElem?
  intro j
  rw [List.getElem?_set]
  unfold wsOf
  rw [List.getElem?_mapIdx, List.getElem?_mapIdx]
  by_cases hj : i = j
  · subst hj
    have hl := (List.getElem?_eq_some_iff.mp h).1
    rw [if_pos rfl, if_pos (by rw [List.length_mapIdx]; exact hl), h]
    show some _ = some _
    rw [← he]
    show some (adr S i, t _ _ _) = some (adr S i, t (va_up w.1 i (upd (w.1 i) k v) i) (w.2.1 i) (w.2.2 i))
    rw [show va_up w.1 i (upd (w.1 i) k v) i = upd (w.1 i) k v from by unfold va_up; rw [if_pos rfl]]
  · rw [if_neg hj]
    cases ht : (tab S)[j]? with
    | none => rfl
    | some t2 =>
      show some (adr S j, t2 _ _ _) = some (adr S j, t2 (va_up w.1 i (upd (w.1 i) k v) j) (w.2.1 j) (w.2.2 j))
      rw [show va_up w.1 i (upd (w.1 i) k v) j = w.1 j from by unfold va_up; rw [if_neg (Ne.symm hj)]]
theorem wsOf_sJ {S : Sx} {w : Wd} {i k : Nat} {v : Int64} {t : CellF} {e : va_E} (h : (tab S)[i]? = some t) (he : t (w.1 i) (vp_updL (w.2.1 i) k v) (w.2.2 i) = e) : (wsOf S w).set i (adr S i, e) = wsOf S (sJ w i k v) := by
  apply List.ext_getElem?
  intro j
  rw [List.getElem?_set]
  unfold wsOf
  rw [List.getElem?_mapIdx, List.getElem?_mapIdx]
  by_cases hj : i = j
  · subst hj
    have hl := (List.getElem?_eq_some_iff.mp h).1
    rw [if_pos rfl, if_pos (by rw [List.length_mapIdx]; exact hl), h]
    show some _ = some _
    rw [← he]
    show some (adr S i, t _ _ _) = some (adr S i, t (w.1 i) (va_up w.2.1 i (vp_updL (w.2.1 i) k v) i) (w.2.2 i))
    rw [show va_up w.2.1 i (vp_updL (w.2.1 i) k v) i = vp_updL (w.2.1 i) k v from by unfold va_up; rw [if_pos rfl]]
  · rw [if_neg hj]
    cases ht : (tab S)[j]? with
    | none => rfl
    | some t2 =>
      show some (adr S j, t2 _ _ _) = some (adr S j, t2 (w.1 j) (va_up w.2.1 i (vp_updL (w.2.1 i) k v) j) (w.2.2 j))
      rw [show va_up w.2.1 i (vp_updL (w.2.1 i) k v) j = w.2.1 j from by unfold va_up; rw [if_neg (Ne.symm hj)]]
theorem wsOf_sR {S : Sx} {w : Wd} {i k : Nat} {v : Nat} {t : CellF} {e : va_E} (h : (tab S)[i]? = some t) (he : t (w.1 i) (w.2.1 i) (va_up (w.2.2 i) k v) = e) : (wsOf S w).set i (adr S i, e) = wsOf S (sR w i k v) := by
  apply List.ext_getElem?
  intro j
  rw [List.getElem?_set]
  unfold wsOf
  rw [List.getElem?_mapIdx, List.getElem?_mapIdx]
  by_cases hj : i = j
  · subst hj
    have hl := (List.getElem?_eq_some_iff.mp h).1
    rw [if_pos rfl, if_pos (by rw [List.length_mapIdx]; exact hl), h]
    show some _ = some _
    rw [← he]
    show some (adr S i, t _ _ _) = some (adr S i, t (w.1 i) (w.2.1 i) (va_up w.2.2 i (va_up (w.2.2 i) k v) i))
    rw [show va_up w.2.2 i (va_up (w.2.2 i) k v) i = va_up (w.2.2 i) k v from by unfold va_up; rw [if_pos rfl]]
  · rw [if_neg hj]
    cases ht : (tab S)[j]? with
    | none => rfl
    | some t2 =>
      show some (adr S j, t2 _ _ _) = some (adr S j, t2 (w.1 j) (w.2.1 j) (va_up w.2.2 i (va_up (w.2.2 i) k v) j))
      rw [show va_up w.2.2 i (va_up (w.2.2 i) k v) j = w.2.2 j from by unfold va_up; rw [if_neg (Ne.symm hj)]]
-- ===== the judgement: from this world, this place in the code, these locals and stack, the machine comes to Q =====
abbrev Cx : Type := Program × Launch × Env × Room × State × MethodId × Array Value × List Frame × Method × Code × (State → Prop)
def Ok (X : Cx) (S : Sx) (cc : ByteArray) (own : String) (nL : Nat) (rm : Room) : Prop := match X with
  | (p, _, _, R, s, m, args, _, _, c, _) => p.tables.exec = Jvm.exec ∧ c.code = cc ∧ c.maxLocals = nL ∧ R = rm ∧ s.vm.findClass own = some m.cls ∧ (∀ w ∈ wall, w.before args s = true) ∧ Sw S s
def V (X : Cx) (S : Sx) (w : Wd) (pc : Nat) (lv : List (Nat × Value)) (st : List Value) : Prop := match X with
  | (p, l, e, R, s, m, args, below, meth, c, Q) => ∀ (H : Heap) (locs : List Loc) (ls : Array Slot), va_P S.1 vwCl (wsOf S w) H → va_S (Aw S) s.heap H locs → lv_has ls c.maxLocals lv → W p l e R s m args below meth c H locs 0 0 Q (F0 m pc ls st)
section RULES
variable {X : Cx} {S : Sx} {cc : ByteArray} {own : String} {nL : Nat} {rm : Room} {w : Wd} {pc : Nat} {lv lv' : List (Nat × Value)} {st : List Value}
theorem V_iadd {x y : Int32} (hX : Ok X S cc own nL rm) (d : decode cc pc = .ok (.iadd, 1)) (kk : V X S w (pc + 1) lv (.int (x + y) :: st)) : V X S w pc lv (.int y :: .int x :: st) := by
  obtain ⟨p, l, e, R, s, m, args, below, meth, c, Q⟩ := X
  exact fun H locs ls hP hS hv => lv_iadd hX.1 hX.2.1 d (kk H locs ls hP hS hv)
theorem V_isub {x y : Int32} (hX : Ok X S cc own nL rm) (d : decode cc pc = .ok (.isub, 1)) (kk : V X S w (pc + 1) lv (.int (x - y) :: st)) : V X S w pc lv (.int y :: .int x :: st) := by
  obtain ⟨p, l, e, R, s, m, args, below, meth, c, Q⟩ := X
  exact fun H locs ls hP hS hv => lv_isub hX.1 hX.2.1 d (kk H locs ls hP hS hv)
theorem V_imul {x y : Int32} (hX : Ok X S cc own nL rm) (d : decode cc pc = .ok (.imul, 1)) (kk : V X S w (pc + 1) lv (.int (x * y) :: st)) : V X S w pc lv (.int y :: .int x :: st) := by
  obtain ⟨p, l, e, R, s, m, args, below, meth, c, Q⟩ := X
  exact fun H locs ls hP hS hv => lv_imul hX.1 hX.2.1 d (kk H locs ls hP hS hv)
theorem V_iand {x y : Int32} (hX : Ok X S cc own nL rm) (d : decode cc pc = .ok (.iand, 1)) (kk : V X S w (pc + 1) lv (.int (x &&& y) :: st)) : V X S w pc lv (.int y :: .int x :: st) := by
  obtain ⟨p, l, e, R, s, m, args, below, meth, c, Q⟩ := X
  exact fun H locs ls hP hS hv => lv_iand hX.1 hX.2.1 d (kk H locs ls hP hS hv)
theorem V_ior {x y : Int32} (hX : Ok X S cc own nL rm) (d : decode cc pc = .ok (.ior, 1)) (kk : V X S w (pc + 1) lv (.int (x ||| y) :: st)) : V X S w pc lv (.int y :: .int x :: st) := by
  obtain ⟨p, l, e, R, s, m, args, below, meth, c, Q⟩ := X
  exact fun H locs ls hP hS hv => lv_ior hX.1 hX.2.1 d (kk H locs ls hP hS hv)
theorem V_ixor {x y : Int32} (hX : Ok X S cc own nL rm) (d : decode cc pc = .ok (.ixor, 1)) (kk : V X S w (pc + 1) lv (.int (x ^^^ y) :: st)) : V X S w pc lv (.int y :: .int x :: st) := by
  obtain ⟨p, l, e, R, s, m, args, below, meth, c, Q⟩ := X
  exact fun H locs ls hP hS hv => lv_ixor hX.1 hX.2.1 d (kk H locs ls hP hS hv)
theorem V_ishl {x y : Int32} (hX : Ok X S cc own nL rm) (d : decode cc pc = .ok (.ishl, 1)) (kk : V X S w (pc + 1) lv (.int (ishlI x y) :: st)) : V X S w pc lv (.int y :: .int x :: st) := by
  obtain ⟨p, l, e, R, s, m, args, below, meth, c, Q⟩ := X
  exact fun H locs ls hP hS hv => lv_ishl hX.1 hX.2.1 d (kk H locs ls hP hS hv)
theorem V_ishr {x y : Int32} (hX : Ok X S cc own nL rm) (d : decode cc pc = .ok (.ishr, 1)) (kk : V X S w (pc + 1) lv (.int (ishrI x y) :: st)) : V X S w pc lv (.int y :: .int x :: st) := by
  obtain ⟨p, l, e, R, s, m, args, below, meth, c, Q⟩ := X
  exact fun H locs ls hP hS hv => lv_ishr hX.1 hX.2.1 d (kk H locs ls hP hS hv)
theorem V_iushr {x y : Int32} (hX : Ok X S cc own nL rm) (d : decode cc pc = .ok (.iushr, 1)) (kk : V X S w (pc + 1) lv (.int (iushrI x y) :: st)) : V X S w pc lv (.int y :: .int x :: st) := by
  obtain ⟨p, l, e, R, s, m, args, below, meth, c, Q⟩ := X
  exact fun H locs ls hP hS hv => lv_iushr hX.1 hX.2.1 d rfl (kk H locs ls hP hS hv)
theorem V_ladd {x y : Int64} (hX : Ok X S cc own nL rm) (d : decode cc pc = .ok (.ladd, 1)) (kk : V X S w (pc + 1) lv (.long (x + y) :: st)) : V X S w pc lv (.long y :: .long x :: st) := by
  obtain ⟨p, l, e, R, s, m, args, below, meth, c, Q⟩ := X
  exact fun H locs ls hP hS hv => lv_ladd hX.1 hX.2.1 d (kk H locs ls hP hS hv)
theorem V_lsub {x y : Int64} (hX : Ok X S cc own nL rm) (d : decode cc pc = .ok (.lsub, 1)) (kk : V X S w (pc + 1) lv (.long (x - y) :: st)) : V X S w pc lv (.long y :: .long x :: st) := by
  obtain ⟨p, l, e, R, s, m, args, below, meth, c, Q⟩ := X
  exact fun H locs ls hP hS hv => lv_lsub hX.1 hX.2.1 d (kk H locs ls hP hS hv)
theorem V_lmul {x y : Int64} (hX : Ok X S cc own nL rm) (d : decode cc pc = .ok (.lmul, 1)) (kk : V X S w (pc + 1) lv (.long (x * y) :: st)) : V X S w pc lv (.long y :: .long x :: st) := by
  obtain ⟨p, l, e, R, s, m, args, below, meth, c, Q⟩ := X
  exact fun H locs ls hP hS hv => lv_lmul hX.1 hX.2.1 d (kk H locs ls hP hS hv)
theorem V_idiv {x y : Int32} (hX : Ok X S cc own nL rm) (d : decode cc pc = .ok (.idiv, 1)) (hz : neZ y = true) (kk : V X S w (pc + 1) lv (.int (x / y) :: st)) : V X S w pc lv (.int y :: .int x :: st) := by
  obtain ⟨p, l, e, R, s, m, args, below, meth, c, Q⟩ := X
  exact fun H locs ls hP hS hv => lv_idiv hX.1 hX.2.1 d (neZ_ne hz) (kk H locs ls hP hS hv)
theorem V_irem {x y : Int32} (hX : Ok X S cc own nL rm) (d : decode cc pc = .ok (.irem, 1)) (hz : neZ y = true) (kk : V X S w (pc + 1) lv (.int (iremI x y) :: st)) : V X S w pc lv (.int y :: .int x :: st) := by
  obtain ⟨p, l, e, R, s, m, args, below, meth, c, Q⟩ := X
  exact fun H locs ls hP hS hv => lv_irem hX.1 hX.2.1 d (neZ_ne hz) (kk H locs ls hP hS hv)
theorem V_ldiv {x y : Int64} (hX : Ok X S cc own nL rm) (d : decode cc pc = .ok (.ldiv, 1)) (hz : neZL y = true) (kk : V X S w (pc + 1) lv (.long (x / y) :: st)) : V X S w pc lv (.long y :: .long x :: st) := by
  obtain ⟨p, l, e, R, s, m, args, below, meth, c, Q⟩ := X
  exact fun H locs ls hP hS hv => lv_ldiv hX.1 hX.2.1 d (neZL_ne hz) (kk H locs ls hP hS hv)
theorem V_lrem {x y : Int64} (hX : Ok X S cc own nL rm) (d : decode cc pc = .ok (.lrem, 1)) (hz : neZL y = true) (kk : V X S w (pc + 1) lv (.long (lremL x y) :: st)) : V X S w pc lv (.long y :: .long x :: st) := by
  obtain ⟨p, l, e, R, s, m, args, below, meth, c, Q⟩ := X
  exact fun H locs ls hP hS hv => lv_lrem hX.1 hX.2.1 d (neZL_ne hz) (kk H locs ls hP hS hv)
theorem V_lcmp {x y : Int64} (hX : Ok X S cc own nL rm) (d : decode cc pc = .ok (.lcmp, 1)) (kk : V X S w (pc + 1) lv (.int (lg_cmp x y) :: st)) : V X S w pc lv (.long y :: .long x :: st) := by
  obtain ⟨p, l, e, R, s, m, args, below, meth, c, Q⟩ := X
  exact fun H locs ls hP hS hv => W.lcmp hX.1 hX.2.1 d (kk H locs ls hP hS hv)
theorem V_ineg {x : Int32} (hX : Ok X S cc own nL rm) (d : decode cc pc = .ok (.ineg, 1)) (kk : V X S w (pc + 1) lv (.int (-x) :: st)) : V X S w pc lv (.int x :: st) := by
  obtain ⟨p, l, e, R, s, m, args, below, meth, c, Q⟩ := X
  exact fun H locs ls hP hS hv => lv_ineg hX.1 hX.2.1 d (kk H locs ls hP hS hv)
theorem V_i2l {x : Int32} (hX : Ok X S cc own nL rm) (d : decode cc pc = .ok (.i2l, 1)) (kk : V X S w (pc + 1) lv (.long x.toInt64 :: st)) : V X S w pc lv (.int x :: st) := by
  obtain ⟨p, l, e, R, s, m, args, below, meth, c, Q⟩ := X
  exact fun H locs ls hP hS hv => lv_i2l hX.1 hX.2.1 d rfl (kk H locs ls hP hS hv)
theorem V_i2b {x : Int32} (hX : Ok X S cc own nL rm) (d : decode cc pc = .ok (.i2b, 1)) (kk : V X S w (pc + 1) lv (.int (i2bI x) :: st)) : V X S w pc lv (.int x :: st) := by
  obtain ⟨p, l, e, R, s, m, args, below, meth, c, Q⟩ := X
  exact fun H locs ls hP hS hv => lv_i2b hX.1 hX.2.1 d rfl (kk H locs ls hP hS hv)
theorem V_i2s {x : Int32} (hX : Ok X S cc own nL rm) (d : decode cc pc = .ok (.i2s, 1)) (kk : V X S w (pc + 1) lv (.int (i2sI x) :: st)) : V X S w pc lv (.int x :: st) := by
  obtain ⟨p, l, e, R, s, m, args, below, meth, c, Q⟩ := X
  exact fun H locs ls hP hS hv => lv_i2s hX.1 hX.2.1 d rfl (kk H locs ls hP hS hv)
theorem V_i2c {x : Int32} (hX : Ok X S cc own nL rm) (d : decode cc pc = .ok (.i2c, 1)) (kk : V X S w (pc + 1) lv (.int (i2cI x) :: st)) : V X S w pc lv (.int x :: st) := by
  obtain ⟨p, l, e, R, s, m, args, below, meth, c, Q⟩ := X
  exact fun H locs ls hP hS hv => lv_i2c hX.1 hX.2.1 d rfl (kk H locs ls hP hS hv)
theorem V_iconst {n : Int} {v : Int32} (hX : Ok X S cc own nL rm) (d : decode cc pc = .ok (.iconst n, 1)) (hv0 : Int32.ofInt n = v) (kk : V X S w (pc + 1) lv (.int v :: st)) : V X S w pc lv (st) := by
  obtain ⟨p, l, e, R, s, m, args, below, meth, c, Q⟩ := X
  exact fun H locs ls hP hS hv => lv_iconst hX.1 hX.2.1 d hv0 (kk H locs ls hP hS hv)
theorem V_bipush {n : Int} {v : Int32} (hX : Ok X S cc own nL rm) (d : decode cc pc = .ok (.bipush n, 2)) (hv0 : (Int8.ofInt n).toInt32 = v) (kk : V X S w (pc + 2) lv (.int v :: st)) : V X S w pc lv (st) := by
  obtain ⟨p, l, e, R, s, m, args, below, meth, c, Q⟩ := X
  exact fun H locs ls hP hS hv => lv_bipush hX.1 hX.2.1 d hv0 (kk H locs ls hP hS hv)
theorem V_sipush {n : Int} {v : Int32} (hX : Ok X S cc own nL rm) (d : decode cc pc = .ok (.sipush n, 3)) (hv0 : (Int16.ofInt n).toInt32 = v) (kk : V X S w (pc + 3) lv (.int v :: st)) : V X S w pc lv (st) := by
  obtain ⟨p, l, e, R, s, m, args, below, meth, c, Q⟩ := X
  exact fun H locs ls hP hS hv => lv_sipush hX.1 hX.2.1 d hv0 (kk H locs ls hP hS hv)
theorem V_lconst {n : Fin 2} {v : Int64} (hX : Ok X S cc own nL rm) (d : decode cc pc = .ok (.lconst n, 1)) (hv0 : Int64.ofNat (n : Nat) = v) (kk : V X S w (pc + 1) lv (.long v :: st)) : V X S w pc lv (st) := by
  obtain ⟨p, l, e, R, s, m, args, below, meth, c, Q⟩ := X
  exact fun H locs ls hP hS hv => lv_lconst hX.1 hX.2.1 d hv0 (kk H locs ls hP hS hv)
theorem V_dup {a : Value} (hX : Ok X S cc own nL rm) (d : decode cc pc = .ok (.dup, 1)) (ha : a.category = 1) (kk : V X S w (pc + 1) lv (a :: a :: st)) : V X S w pc lv (a :: st) := by
  obtain ⟨p, l, e, R, s, m, args, below, meth, c, Q⟩ := X
  exact fun H locs ls hP hS hv => lv_dup hX.1 hX.2.1 d ha (kk H locs ls hP hS hv)
theorem V_pop {a : Value} (hX : Ok X S cc own nL rm) (d : decode cc pc = .ok (.pop, 1)) (ha : a.category = 1) (kk : V X S w (pc + 1) lv (st)) : V X S w pc lv (a :: st) := by
  obtain ⟨p, l, e, R, s, m, args, below, meth, c, Q⟩ := X
  exact fun H locs ls hP hS hv => lv_pop hX.1 hX.2.1 d ha (kk H locs ls hP hS hv)
theorem V_dup2 {a b : Value} (hX : Ok X S cc own nL rm) (d : decode cc pc = .ok (.dup2, 1)) (ha : a.category = 1) (hb : b.category = 1) (kk : V X S w (pc + 1) lv (a :: b :: a :: b :: st)) : V X S w pc lv (a :: b :: st) := by
  obtain ⟨p, l, e, R, s, m, args, below, meth, c, Q⟩ := X
  exact fun H locs ls hP hS hv => lv_dup2_11 hX.1 hX.2.1 d ha hb (kk H locs ls hP hS hv)
theorem V_if_eq {x : Int32} {off : Int} {tgt : Nat} (hX : Ok X S cc own nL rm) (d : decode cc pc = .ok (.ifCond .eq off, 3)) (ht : (pc : Int) + off = (tgt : Int)) (kt : x = 0 → V X S w tgt lv st) (kf : ¬ x = 0 → V X S w (pc + 3) lv st) : V X S w pc lv (.int x :: st) := by
  obtain ⟨p, l, e, R, s, m, args, below, meth, c, Q⟩ := X
  exact fun H locs ls hP hS hv => lv_if_eq hX.1 hX.2.1 d ht (fun h => kt h H locs ls hP hS hv) (fun h => kf h H locs ls hP hS hv)
theorem V_if_lt {x : Int32} {off : Int} {tgt : Nat} (hX : Ok X S cc own nL rm) (d : decode cc pc = .ok (.ifCond .lt off, 3)) (ht : (pc : Int) + off = (tgt : Int)) (kt : x < 0 → V X S w tgt lv st) (kf : ¬ x < 0 → V X S w (pc + 3) lv st) : V X S w pc lv (.int x :: st) := by
  obtain ⟨p, l, e, R, s, m, args, below, meth, c, Q⟩ := X
  exact fun H locs ls hP hS hv => lv_if_lt hX.1 hX.2.1 d ht (fun h => kt h H locs ls hP hS hv) (fun h => kf h H locs ls hP hS hv)
theorem V_if_ge {x : Int32} {off : Int} {tgt : Nat} (hX : Ok X S cc own nL rm) (d : decode cc pc = .ok (.ifCond .ge off, 3)) (ht : (pc : Int) + off = (tgt : Int)) (kt : 0 ≤ x → V X S w tgt lv st) (kf : ¬ 0 ≤ x → V X S w (pc + 3) lv st) : V X S w pc lv (.int x :: st) := by
  obtain ⟨p, l, e, R, s, m, args, below, meth, c, Q⟩ := X
  exact fun H locs ls hP hS hv => lv_if_ge hX.1 hX.2.1 d ht (fun h => kt h H locs ls hP hS hv) (fun h => kf h H locs ls hP hS hv)
theorem V_if_gt {x : Int32} {off : Int} {tgt : Nat} (hX : Ok X S cc own nL rm) (d : decode cc pc = .ok (.ifCond .gt off, 3)) (ht : (pc : Int) + off = (tgt : Int)) (kt : 0 < x → V X S w tgt lv st) (kf : ¬ 0 < x → V X S w (pc + 3) lv st) : V X S w pc lv (.int x :: st) := by
  obtain ⟨p, l, e, R, s, m, args, below, meth, c, Q⟩ := X
  exact fun H locs ls hP hS hv => lv_if_gt hX.1 hX.2.1 d ht (fun h => kt h H locs ls hP hS hv) (fun h => kf h H locs ls hP hS hv)
theorem V_if_le {x : Int32} {off : Int} {tgt : Nat} (hX : Ok X S cc own nL rm) (d : decode cc pc = .ok (.ifCond .le off, 3)) (ht : (pc : Int) + off = (tgt : Int)) (kt : x ≤ 0 → V X S w tgt lv st) (kf : ¬ x ≤ 0 → V X S w (pc + 3) lv st) : V X S w pc lv (.int x :: st) := by
  obtain ⟨p, l, e, R, s, m, args, below, meth, c, Q⟩ := X
  exact fun H locs ls hP hS hv => lv_if_le hX.1 hX.2.1 d ht (fun h => kt h H locs ls hP hS hv) (fun h => kf h H locs ls hP hS hv)
theorem V_icmp_eq {x y : Int32} {off : Int} {tgt : Nat} (hX : Ok X S cc own nL rm) (d : decode cc pc = .ok (.if_icmp .eq off, 3)) (ht : (pc : Int) + off = (tgt : Int)) (kt : x = y → V X S w tgt lv st) (kf : ¬ x = y → V X S w (pc + 3) lv st) : V X S w pc lv (.int y :: .int x :: st) := by
  obtain ⟨p, l, e, R, s, m, args, below, meth, c, Q⟩ := X
  exact fun H locs ls hP hS hv => lv_icmp_eq hX.1 hX.2.1 d ht (fun h => kt h H locs ls hP hS hv) (fun h => kf h H locs ls hP hS hv)
theorem V_icmp_lt {x y : Int32} {off : Int} {tgt : Nat} (hX : Ok X S cc own nL rm) (d : decode cc pc = .ok (.if_icmp .lt off, 3)) (ht : (pc : Int) + off = (tgt : Int)) (kt : x < y → V X S w tgt lv st) (kf : ¬ x < y → V X S w (pc + 3) lv st) : V X S w pc lv (.int y :: .int x :: st) := by
  obtain ⟨p, l, e, R, s, m, args, below, meth, c, Q⟩ := X
  exact fun H locs ls hP hS hv => lv_icmp_lt hX.1 hX.2.1 d ht (fun h => kt h H locs ls hP hS hv) (fun h => kf h H locs ls hP hS hv)
theorem V_icmp_ge {x y : Int32} {off : Int} {tgt : Nat} (hX : Ok X S cc own nL rm) (d : decode cc pc = .ok (.if_icmp .ge off, 3)) (ht : (pc : Int) + off = (tgt : Int)) (kt : y ≤ x → V X S w tgt lv st) (kf : ¬ y ≤ x → V X S w (pc + 3) lv st) : V X S w pc lv (.int y :: .int x :: st) := by
  obtain ⟨p, l, e, R, s, m, args, below, meth, c, Q⟩ := X
  exact fun H locs ls hP hS hv => lv_icmp_ge hX.1 hX.2.1 d ht (fun h => kt h H locs ls hP hS hv) (fun h => kf h H locs ls hP hS hv)
theorem V_icmp_gt {x y : Int32} {off : Int} {tgt : Nat} (hX : Ok X S cc own nL rm) (d : decode cc pc = .ok (.if_icmp .gt off, 3)) (ht : (pc : Int) + off = (tgt : Int)) (kt : y < x → V X S w tgt lv st) (kf : ¬ y < x → V X S w (pc + 3) lv st) : V X S w pc lv (.int y :: .int x :: st) := by
  obtain ⟨p, l, e, R, s, m, args, below, meth, c, Q⟩ := X
  exact fun H locs ls hP hS hv => lv_icmp_gt hX.1 hX.2.1 d ht (fun h => kt h H locs ls hP hS hv) (fun h => kf h H locs ls hP hS hv)
theorem V_icmp_le {x y : Int32} {off : Int} {tgt : Nat} (hX : Ok X S cc own nL rm) (d : decode cc pc = .ok (.if_icmp .le off, 3)) (ht : (pc : Int) + off = (tgt : Int)) (kt : x ≤ y → V X S w tgt lv st) (kf : ¬ x ≤ y → V X S w (pc + 3) lv st) : V X S w pc lv (.int y :: .int x :: st) := by
  obtain ⟨p, l, e, R, s, m, args, below, meth, c, Q⟩ := X
  exact fun H locs ls hP hS hv => lv_icmp_le hX.1 hX.2.1 d ht (fun h => kt h H locs ls hP hS hv) (fun h => kf h H locs ls hP hS hv)
theorem V_if_ne {x : Int32} {off : Int} {tgt : Nat} (hX : Ok X S cc own nL rm) (d : decode cc pc = .ok (.ifCond .ne off, 3)) (ht : (pc : Int) + off = (tgt : Int)) (kt : ¬ x = 0 → V X S w tgt lv st) (kf : x = 0 → V X S w (pc + 3) lv st) : V X S w pc lv (.int x :: st) := by
  obtain ⟨p, l, e, R, s, m, args, below, meth, c, Q⟩ := X
  exact fun H locs ls hP hS hv => lv_if_ne hX.1 hX.2.1 d ht (fun h => kt h H locs ls hP hS hv) (fun h => kf h H locs ls hP hS hv)
theorem V_icmp_ne {x y : Int32} {off : Int} {tgt : Nat} (hX : Ok X S cc own nL rm) (d : decode cc pc = .ok (.if_icmp .ne off, 3)) (ht : (pc : Int) + off = (tgt : Int)) (kt : ¬ x = y → V X S w tgt lv st) (kf : x = y → V X S w (pc + 3) lv st) : V X S w pc lv (.int y :: .int x :: st) := by
  obtain ⟨p, l, e, R, s, m, args, below, meth, c, Q⟩ := X
  exact fun H locs ls hP hS hv => lv_icmp_ne hX.1 hX.2.1 d ht (fun h => kt h H locs ls hP hS hv) (fun h => kf h H locs ls hP hS hv)
theorem V_sub (ks : List Nat) (hl : lv_pick lv ks = lv') (k : V X S w pc lv' st) : V X S w pc lv st := by
  obtain ⟨p, l, e, R, s, m, args, below, meth, c, Q⟩ := X
  exact fun H locs ls hP hS hv => k H locs ls hP hS (lv_sub hv ks hl)
theorem V_topi {x : Int32} (k : ∀ y : Int32, y = x → V X S w pc lv (.int y :: st)) : V X S w pc lv (.int x :: st) := k x rfl
theorem V_topl {x : Int64} (k : ∀ y : Int64, y = x → V X S w pc lv (.long y :: st)) : V X S w pc lv (.long x :: st) := k x rfl
theorem V_topr {x : Nat} (k : ∀ y : Nat, y = x → V X S w pc lv (rf S y :: st)) : V X S w pc lv (rf S x :: st) := k x rfl
theorem V_wd {w0 : Wd} (k : ∀ w, w = w0 → V X S w pc lv st) : V X S w0 pc lv st := k w0 rfl
theorem V_iload_n {k : Fin 4} {x : Int32} (hX : Ok X S cc own nL rm) (d : decode cc pc = .ok (.iload_n k, 1)) (j : Nat) (hj : lv[j]? = some ((k : Nat), .int x)) (kk : V X S w (pc + 1) lv (.int x :: st)) : V X S w pc lv st := by
  obtain ⟨p, l, e, R, s, m, args, below, meth, c, Q⟩ := X
  exact fun H locs ls hP hS hv => lv_iload_n hX.1 hX.2.1 d rfl (lv_at hv j hj) (kk H locs ls hP hS hv)
theorem V_iload {i : Nat} {x : Int32} (hX : Ok X S cc own nL rm) (d : decode cc pc = .ok (.iload i, 2)) (j : Nat) (hj : lv[j]? = some (i, .int x)) (kk : V X S w (pc + 2) lv (.int x :: st)) : V X S w pc lv st := by
  obtain ⟨p, l, e, R, s, m, args, below, meth, c, Q⟩ := X
  exact fun H locs ls hP hS hv => lv_iload hX.1 hX.2.1 d (lv_at hv j hj) (kk H locs ls hP hS hv)
theorem V_lload_n {k : Fin 4} {x : Int64} (hX : Ok X S cc own nL rm) (d : decode cc pc = .ok (.lload_n k, 1)) (j : Nat) (hj : lv[j]? = some ((k : Nat), .long x)) (kk : V X S w (pc + 1) lv (.long x :: st)) : V X S w pc lv st := by
  obtain ⟨p, l, e, R, s, m, args, below, meth, c, Q⟩ := X
  exact fun H locs ls hP hS hv => lv_lload_n hX.1 hX.2.1 d rfl (lv_at hv j hj) (kk H locs ls hP hS hv)
theorem V_lload {i : Nat} {x : Int64} (hX : Ok X S cc own nL rm) (d : decode cc pc = .ok (.lload i, 2)) (j : Nat) (hj : lv[j]? = some (i, .long x)) (kk : V X S w (pc + 2) lv (.long x :: st)) : V X S w pc lv st := by
  obtain ⟨p, l, e, R, s, m, args, below, meth, c, Q⟩ := X
  exact fun H locs ls hP hS hv => lv_lload hX.1 hX.2.1 d (lv_at hv j hj) (kk H locs ls hP hS hv)
theorem V_aload_n {k : Fin 4} {x : Nat} (hX : Ok X S cc own nL rm) (d : decode cc pc = .ok (.aload_n k, 1)) (j : Nat) (hj : lv[j]? = some ((k : Nat), .ref x)) (kk : V X S w (pc + 1) lv (.ref x :: st)) : V X S w pc lv st := by
  obtain ⟨p, l, e, R, s, m, args, below, meth, c, Q⟩ := X
  exact fun H locs ls hP hS hv => lv_aload_n hX.1 hX.2.1 d rfl (lv_at hv j hj) (kk H locs ls hP hS hv)
theorem V_aload {i : Nat} {x : Nat} (hX : Ok X S cc own nL rm) (d : decode cc pc = .ok (.aload i, 2)) (j : Nat) (hj : lv[j]? = some (i, .ref x)) (kk : V X S w (pc + 2) lv (.ref x :: st)) : V X S w pc lv st := by
  obtain ⟨p, l, e, R, s, m, args, below, meth, c, Q⟩ := X
  exact fun H locs ls hP hS hv => lv_aload hX.1 hX.2.1 d (lv_at hv j hj) (kk H locs ls hP hS hv)
theorem V_istore_n {k : Fin 4} {x : Int32} (hX : Ok X S cc own nL rm) (d : decode cc pc = .ok (.istore_n k, 1)) (hn : (k : Nat) < nL) (hl : ((k : Nat), Value.int x) :: lv.filter (fun q => !(q.1 == (k : Nat)) && !(q.1 + 1 == (k : Nat) && q.2.category == 2)) = lv') (kk : V X S w (pc + 1) lv' st) : V X S w pc lv (.int x :: st) := by
  obtain ⟨p, l, e, R, s, m, args, below, meth, c, Q⟩ := X
  obtain ⟨h1, h2, rfl, -⟩ := hX
  exact fun H locs ls hP hS hv => lv_istore_n h1 h2 d rfl hv hn hl (fun ls' hv' => kk H locs ls' hP hS hv')
theorem V_istore {i : Nat} {x : Int32} (hX : Ok X S cc own nL rm) (d : decode cc pc = .ok (.istore i, 2)) (hn : i < nL) (hl : (i, Value.int x) :: lv.filter (fun q => !(q.1 == i) && !(q.1 + 1 == i && q.2.category == 2)) = lv') (kk : V X S w (pc + 2) lv' st) : V X S w pc lv (.int x :: st) := by
  obtain ⟨p, l, e, R, s, m, args, below, meth, c, Q⟩ := X
  obtain ⟨h1, h2, rfl, -⟩ := hX
  exact fun H locs ls hP hS hv => lv_istore h1 h2 d hv hn hl (fun ls' hv' => kk H locs ls' hP hS hv')
theorem V_lstore_n {k : Fin 4} {x : Int64} (hX : Ok X S cc own nL rm) (d : decode cc pc = .ok (.lstore_n k, 1)) (hn : (k : Nat) + 1 < nL) (hl : ((k : Nat), Value.long x) :: lv.filter (fun q => !(q.1 == (k : Nat)) && (!(q.1 == (k : Nat) + 1) && !(q.1 + 1 == (k : Nat) && q.2.category == 2))) = lv') (kk : V X S w (pc + 1) lv' st) : V X S w pc lv (.long x :: st) := by
  obtain ⟨p, l, e, R, s, m, args, below, meth, c, Q⟩ := X
  obtain ⟨h1, h2, rfl, -⟩ := hX
  exact fun H locs ls hP hS hv => lv_lstore_n h1 h2 d rfl hv hn hl (fun ls' hv' => kk H locs ls' hP hS hv')
theorem V_lstore {i : Nat} {x : Int64} (hX : Ok X S cc own nL rm) (d : decode cc pc = .ok (.lstore i, 2)) (hn : i + 1 < nL) (hl : (i, Value.long x) :: lv.filter (fun q => !(q.1 == i) && (!(q.1 == i + 1) && !(q.1 + 1 == i && q.2.category == 2))) = lv') (kk : V X S w (pc + 2) lv' st) : V X S w pc lv (.long x :: st) := by
  obtain ⟨p, l, e, R, s, m, args, below, meth, c, Q⟩ := X
  obtain ⟨h1, h2, rfl, -⟩ := hX
  exact fun H locs ls hP hS hv => lv_lstore h1 h2 d hv hn hl (fun ls' hv' => kk H locs ls' hP hS hv')
theorem V_astore_n {k : Fin 4} {x : Nat} (hX : Ok X S cc own nL rm) (d : decode cc pc = .ok (.astore_n k, 1)) (hn : (k : Nat) < nL) (hl : ((k : Nat), Value.ref x) :: lv.filter (fun q => !(q.1 == (k : Nat)) && !(q.1 + 1 == (k : Nat) && q.2.category == 2)) = lv') (kk : V X S w (pc + 1) lv' st) : V X S w pc lv (.ref x :: st) := by
  obtain ⟨p, l, e, R, s, m, args, below, meth, c, Q⟩ := X
  obtain ⟨h1, h2, rfl, -⟩ := hX
  exact fun H locs ls hP hS hv => lv_astore_n h1 h2 d rfl hv hn hl (fun ls' hv' => kk H locs ls' hP hS hv')
theorem V_astore {i : Nat} {x : Nat} (hX : Ok X S cc own nL rm) (d : decode cc pc = .ok (.astore i, 2)) (hn : i < nL) (hl : (i, Value.ref x) :: lv.filter (fun q => !(q.1 == i) && !(q.1 + 1 == i && q.2.category == 2)) = lv') (kk : V X S w (pc + 2) lv' st) : V X S w pc lv (.ref x :: st) := by
  obtain ⟨p, l, e, R, s, m, args, below, meth, c, Q⟩ := X
  obtain ⟨h1, h2, rfl, -⟩ := hX
  exact fun H locs ls hP hS hv => lv_astore h1 h2 d hv hn hl (fun ls' hv' => kk H locs ls' hP hS hv')
theorem V_iinc {i j : Nat} {n : Int} {x v : Int32} (hX : Ok X S cc own nL rm) (d : decode cc pc = .ok (.iinc i n, 3)) (hj : lv[j]? = some (i, .int x)) (hn : i < nL) (hv0 : x + Int32.ofInt n = v) (hl : (i, Value.int v) :: lv.filter (fun q => !(q.1 == i) && !(q.1 + 1 == i && q.2.category == 2)) = lv') (kk : V X S w (pc + 3) lv' st) : V X S w pc lv st := by
  obtain ⟨p, l, e, R, s, m, args, below, meth, c, Q⟩ := X
  obtain ⟨h1, h2, rfl, -⟩ := hX
  exact fun H locs ls hP hS hv => lv_iinc h1 h2 d hv hj hv0 hn hl (fun ls' hv' => kk H locs ls' hP hS hv')
theorem V_goto {off : Int} {tgt : Nat} (hX : Ok X S cc own nL rm) (d : decode cc pc = .ok (.goto off, 3)) (ht : (pc : Int) + off = (tgt : Int)) (kk : V X S w tgt lv st) : V X S w pc lv st := by
  obtain ⟨p, l, e, R, s, m, args, below, meth, c, Q⟩ := X
  exact fun H locs ls hP hS hv => lv_goto hX.1 hX.2.1 d ht (kk H locs ls hP hS hv)
theorem V_tableOut {dflt lo hi : Int} {offs : Array Int} {len : Nat} {x : Int32} {tgt : Nat} (hX : Ok X S cc own nL rm) (d : decode cc pc = .ok (.tableswitch dflt lo hi offs, len)) (h : x.toInt < lo ∨ hi < x.toInt) (ht : (pc : Int) + dflt = (tgt : Int)) (kk : V X S w tgt lv st) : V X S w pc lv (.int x :: st) := by
  obtain ⟨p, l, e, R, s, m, args, below, meth, c, Q⟩ := X
  exact fun H locs ls hP hS hv => lv_tableOut hX.1 hX.2.1 d h ht (kk H locs ls hP hS hv)
theorem V_tableIn {dflt lo hi : Int} {offs : Array Int} {len : Nat} {x : Int32} {off : Int} {tgt : Nat} (hX : Ok X S cc own nL rm) (d : decode cc pc = .ok (.tableswitch dflt lo hi offs, len)) (h1 : ¬ x.toInt < lo) (h2 : ¬ hi < x.toInt) (ho : offs[(x.toInt - lo).toNat]? = some off) (ht : (pc : Int) + off = (tgt : Int)) (kk : V X S w tgt lv st) : V X S w pc lv (.int x :: st) := by
  obtain ⟨p, l, e, R, s, m, args, below, meth, c, Q⟩ := X
  exact fun H locs ls hP hS hv => lv_tableIn hX.1 hX.2.1 d h1 h2 ho ht (kk H locs ls hP hS hv)
theorem V_lookup {dflt : Int} {ps : Array (Int × Int)} {len : Nat} {x : Int32} {off : Int} {tgt : Nat} (hX : Ok X S cc own nL rm) (d : decode cc pc = .ok (.lookupswitch dflt ps, len)) (hp : (ps.toList.zip (ps.toList.drop 1)).all (fun (a, next) => a.1 < next.1) = true) (ho : Op.lookupswitch.offset ps.toList dflt x.toInt = off) (ht : (pc : Int) + off = (tgt : Int)) (kk : V X S w tgt lv st) : V X S w pc lv (.int x :: st) := by
  obtain ⟨p, l, e, R, s, m, args, below, meth, c, Q⟩ := X
  exact fun H locs ls hP hS hv => lv_lookup hX.1 hX.2.1 d hp ho ht (kk H locs ls hP hS hv)
theorem V_ldc {index : Nat} {v : Int32} (hX : Ok X S cc own nL rm) (d : decode cc pc = .ok (.ldc index, 2)) (hw : Cond.constant own index v ∈ wall) (kk : V X S w (pc + 2) lv (.int v :: st)) : V X S w pc lv st := by
  obtain ⟨p, l, e, R, s, m, args, below, meth, c, Q⟩ := X
  obtain ⟨h1, h2, h3, h4, h5, h6, h7⟩ := hX
  exact fun H locs ls hP hS hv => lv_ldc h1 h2 h5 (h6 _ hw) d (kk H locs ls hP hS hv)
theorem V_ldcw {index : Nat} {v : Int32} (hX : Ok X S cc own nL rm) (d : decode cc pc = .ok (.ldc_w index, 3)) (hw : Cond.constant own index v ∈ wall) (kk : V X S w (pc + 3) lv (.int v :: st)) : V X S w pc lv st := by
  obtain ⟨p, l, e, R, s, m, args, below, meth, c, Q⟩ := X
  obtain ⟨h1, h2, h3, h4, h5, h6, h7⟩ := hX
  exact fun H locs ls hP hS hv => lv_ldcw h1 h2 h5 (h6 _ hw) d (kk H locs ls hP hS hv)
theorem V_ldc2 {index : Nat} {v : Int64} (hX : Ok X S cc own nL rm) (d : decode cc pc = .ok (.ldc2_w index, 3)) (hw : Cond.constantLong own index v ∈ wall) (kk : V X S w (pc + 3) lv (.long v :: st)) : V X S w pc lv st := by
  obtain ⟨p, l, e, R, s, m, args, below, meth, c, Q⟩ := X
  obtain ⟨h1, h2, h3, h4, h5, h6, h7⟩ := hX
  exact fun H locs ls hP hS hv => lv_ldc2 h1 h2 h5 (h6 _ hw) d (kk H locs ls hP hS hv)
/-- a String constant -/
theorem V_ldcS {index k : Nat} {tx : String} (hX : Ok X S cc own nL rm) (d : decode cc pc = .ok (.ldc index, 2)) (hs : ∀ s, Sw S s → vk_R own index tx (adK S k) s) (kk : V X S w (pc + 2) lv (.ref (adK S k) :: st)) : V X S w pc lv st := by
  obtain ⟨p, l, e, R, s, m, args, below, meth, c, Q⟩ := X
  obtain ⟨h1, h2, h3, h4, h5, h6, h7⟩ := hX
  exact fun H locs ls hP hS hv => va_ldcS h1 h2 h5 (hs s h7) d (kk H locs ls hP hS hv)
-- fields
theorem V_get {i ci k index : Nat} {fs : (Nat → Int32) → (Nat → Int64) → (Nat → Nat) → List Value} {v : Value} (hX : Ok X S cc own nL rm) (hf : FLk own index ci k) (ht : (tab S)[i]? = some (cO ci fs)) (hv : (fs (w.1 i) (w.2.1 i) (w.2.2 i))[k]? = some v) (d : decode cc pc = .ok (.getfield index, 3)) (kk : V X S w (pc + 3) lv (v :: st)) : V X S w pc lv (.ref (adr S i) :: st) := by
  obtain ⟨p, l, e, R, s, m, args, below, meth, c, Q⟩ := X
  obtain ⟨h1, h2, h3, h4, h5, h6, h7⟩ := hX
  obtain ⟨C, T, N, f1, f2, f3, f4⟩ := hf
  exact fun H locs ls hP hS hl => va_get (Ts := wall) h1 h2 h6 f4 h5 h7.1 hP i (wsOf_get ht) f1 k f2 (h6 _ f3) (fun _ h9 => h9) hv d (kk H locs ls hP hS hl)
theorem V_put {i ci k index : Nat} {fs : (Nat → Int32) → (Nat → Int64) → (Nat → Nat) → List Value} {ty : FieldType} {v : Value} {w2 : Wd} (hX : Ok X S cc own nL rm) (hf : FLw own index ci k ty) (ht : (tab S)[i]? = some (cO ci fs)) (hn : narrow ty v = v) (hfit : fits ty v = true) (hl0 : k < (fs (w.1 i) (w.2.1 i) (w.2.2 i)).length)
    (hset : (wsOf S w).set i (adr S i, .inr (ci, (fs (w.1 i) (w.2.1 i) (w.2.2 i)).set k v)) = wsOf S w2) (d : decode cc pc = .ok (.putfield index, 3)) (kk : V X S w2 (pc + 3) lv st) : V X S w pc lv (v :: .ref (adr S i) :: st) := by
  obtain ⟨p, l, e, R, s, m, args, below, meth, c, Q⟩ := X
  obtain ⟨h1, h2, h3, h4, h5, h6, h7⟩ := hX
  obtain ⟨C, T, N, ty0, f1, f2, f3, f4, f5, f6, f7, f8⟩ := hf
  exact fun H locs ls hP hS hl => va_put (Ts := wall) h1 h2 h6 f4 ty0 f5 f6 h5 h7.1 hP (wsOf_D h7.2.1) hS i (wsOf_get ht) f1 k f2 (h6 _ f3) (fun _ h9 => h9) f7 f8 hn hfit hl0 d (fun H1 locs1 hP1 _ hS1 => kk H1 locs1 ls (by rw [← hset]; exact hP1) hS1 hl)
theorem V_getI {i ci k index : Nat} {fs : (Nat → Int32) → (Nat → Int64) → (Nat → Nat) → List Value} (hX : Ok X S cc own nL rm) (hf : FLk own index ci k) (ht : (tab S)[i]? = some (cO ci fs)) (hv : ∀ I J R, (fs I J R)[k]? = some (.int (I k))) (d : decode cc pc = .ok (.getfield index, 3)) (kk : V X S w (pc + 3) lv (.int (gI w i k) :: st)) : V X S w pc lv (rf S i :: st) := V_get hX hf ht (hv _ _ _) d kk
theorem V_getJ {i ci k index : Nat} {fs : (Nat → Int32) → (Nat → Int64) → (Nat → Nat) → List Value} (hX : Ok X S cc own nL rm) (hf : FLk own index ci k) (ht : (tab S)[i]? = some (cO ci fs)) (hv : ∀ I J R, (fs I J R)[k]? = some (.long (J k))) (d : decode cc pc = .ok (.getfield index, 3)) (kk : V X S w (pc + 3) lv (.long (gJ w i k) :: st)) : V X S w pc lv (rf S i :: st) := V_get hX hf ht (hv _ _ _) d kk
theorem V_getF {i ci k index j : Nat} {fs : (Nat → Int32) → (Nat → Int64) → (Nat → Nat) → List Value} (hX : Ok X S cc own nL rm) (hf : FLk own index ci k) (ht : (tab S)[i]? = some (cO ci fs)) (hv : ∀ I J R, (fs I J R)[k]? = some (rf S j)) (d : decode cc pc = .ok (.getfield index, 3)) (kk : V X S w (pc + 3) lv (rf S j :: st)) : V X S w pc lv (rf S i :: st) := V_get hX hf ht (hv _ _ _) d kk
theorem V_getD {i ci k index : Nat} {fs : (Nat → Int32) → (Nat → Int64) → (Nat → Nat) → List Value} (hX : Ok X S cc own nL rm) (hf : FLk own index ci k) (ht : (tab S)[i]? = some (cO ci fs)) (hv : ∀ I J R, (fs I J R)[k]? = some (rf S (R k))) (d : decode cc pc = .ok (.getfield index, 3)) (kk : V X S w (pc + 3) lv (rf S (gR w i k) :: st)) : V X S w pc lv (rf S i :: st) := V_get hX hf ht (hv _ _ _) d kk
theorem V_putI {i ci k index : Nat} {fs : (Nat → Int32) → (Nat → Int64) → (Nat → Nat) → List Value} {v : Int32} (hX : Ok X S cc own nL rm) (hf : FLw own index ci k .int) (ht : (tab S)[i]? = some (cO ci fs)) (hv : ∀ I J R, k < (fs I J R).length ∧ fs (upd I k v) J R = (fs I J R).set k (.int v)) (d : decode cc pc = .ok (.putfield index, 3)) (kk : ∀ w2, w2 = sI w i k v → V X S w2 (pc + 3) lv st) : V X S w pc lv (.int v :: rf S i :: st) :=
  V_put hX hf ht rfl rfl (hv _ _ _).1 (wsOf_sI ht (by show Sum.inr _ = _; rw [(hv _ _ _).2])) d (kk _ rfl)
theorem V_putZ {i ci k index : Nat} {fs : (Nat → Int32) → (Nat → Int64) → (Nat → Nat) → List Value} {v : Int32} (hX : Ok X S cc own nL rm) (hf : FLw own index ci k .boolean) (ht : (tab S)[i]? = some (cO ci fs)) (hz : isZO v = true) (hv : ∀ I J R, k < (fs I J R).length ∧ fs (upd I k v) J R = (fs I J R).set k (.int v)) (d : decode cc pc = .ok (.putfield index, 3)) (kk : ∀ w2, w2 = sI w i k v → V X S w2 (pc + 3) lv st) : V X S w pc lv (.int v :: rf S i :: st) :=
  V_put hX hf ht (by rcases isZO_or hz with rfl | rfl <;> rfl) (by rcases isZO_or hz with rfl | rfl <;> rfl) (hv _ _ _).1 (wsOf_sI ht (by show Sum.inr _ = _; rw [(hv _ _ _).2])) d (kk _ rfl)
theorem V_putJ {i ci k index : Nat} {fs : (Nat → Int32) → (Nat → Int64) → (Nat → Nat) → List Value} {v : Int64} (hX : Ok X S cc own nL rm) (hf : FLw own index ci k .long) (ht : (tab S)[i]? = some (cO ci fs)) (hv : ∀ I J R, k < (fs I J R).length ∧ fs I (vp_updL J k v) R = (fs I J R).set k (.long v)) (d : decode cc pc = .ok (.putfield index, 3)) (kk : ∀ w2, w2 = sJ w i k v → V X S w2 (pc + 3) lv st) : V X S w pc lv (.long v :: rf S i :: st) :=
  V_put hX hf ht rfl rfl (hv _ _ _).1 (wsOf_sJ ht (by show Sum.inr _ = _; rw [(hv _ _ _).2])) d (kk _ rfl)
theorem V_putD {i ci k index v : Nat} {C : String} {fs : (Nat → Int32) → (Nat → Int64) → (Nat → Nat) → List Value} (hX : Ok X S cc own nL rm) (hf : FLw own index ci k (.object C)) (ht : (tab S)[i]? = some (cO ci fs)) (hv : ∀ I J R, k < (fs I J R).length ∧ fs I J (va_up R k v) = (fs I J R).set k (rf S v)) (d : decode cc pc = .ok (.putfield index, 3)) (kk : ∀ w2, w2 = sR w i k v → V X S w2 (pc + 3) lv st) : V X S w pc lv (rf S v :: rf S i :: st) :=
  V_put hX hf ht rfl rfl (hv _ _ _).1 (wsOf_sR ht (by show Sum.inr _ = _; rw [(hv _ _ _).2])) d (kk _ rfl)
-- arrays
theorem V_iald {i n : Nat} {j : Int32} (hX : Ok X S cc own nL rm) (ht : (tab S)[i]? = some (cI S n)) (hin : inB j n = true) (d : decode cc pc = .ok (.iaload, 1)) (kk : V X S w (pc + 1) lv (.int (gI w i j.toNatClampNeg) :: st)) : V X S w pc lv (.int j :: rf S i :: st) := by
  obtain ⟨p, l, e, R, s, m, args, below, meth, c, Q⟩ := X
  obtain ⟨h1, h2, h3, h4, h5, h6, h7⟩ := hX
  exact fun H locs ls hP hS hl => va_iald h1 h2 h7.1 hP i 0 (wsOf_get ht) rfl (inB_in hin) d (kk H locs ls hP hS hl)
theorem V_lald {i n : Nat} {j : Int32} (hX : Ok X S cc own nL rm) (ht : (tab S)[i]? = some (cJ S n)) (hin : inB j n = true) (d : decode cc pc = .ok (.laload, 1)) (kk : V X S w (pc + 1) lv (.long (gJ w i j.toNatClampNeg) :: st)) : V X S w pc lv (.int j :: rf S i :: st) := by
  obtain ⟨p, l, e, R, s, m, args, below, meth, c, Q⟩ := X
  obtain ⟨h1, h2, h3, h4, h5, h6, h7⟩ := hX
  exact fun H locs ls hP hS hl => va_lald h1 h2 h7.1 hP i 1 (wsOf_get ht) rfl (inB_in hin) d (kk H locs ls hP hS hl)
theorem V_zald {i n : Nat} {j : Int32} (hX : Ok X S cc own nL rm) (ht : (tab S)[i]? = some (cZ S n)) (hin : inB j n = true) (d : decode cc pc = .ok (.baload, 1)) (kk : V X S w (pc + 1) lv (.int (gI w i j.toNatClampNeg) :: st)) : V X S w pc lv (.int j :: rf S i :: st) := by
  obtain ⟨p, l, e, R, s, m, args, below, meth, c, Q⟩ := X
  obtain ⟨h1, h2, h3, h4, h5, h6, h7⟩ := hX
  exact fun H locs ls hP hS hl => va_zald h1 h2 h7.1 hP i 2 (wsOf_get ht) rfl (inB_in hin) d (kk H locs ls hP hS hl)
theorem V_aald {i n base : Nat} {j : Int32} (hX : Ok X S cc own nL rm) (ht : (tab S)[i]? = some (cB S n base)) (hin : inB j n = true) (d : decode cc pc = .ok (.aaload, 1)) (kk : V X S w (pc + 1) lv (rf S (base + 2 * j.toNatClampNeg) :: st)) : V X S w pc lv (.int j :: rf S i :: st) := by
  obtain ⟨p, l, e, R, s, m, args, below, meth, c, Q⟩ := X
  obtain ⟨h1, h2, h3, h4, h5, h6, h7⟩ := hX
  exact fun H locs ls hP hS hl => va_aldq h1 h2 h7.1 hP i 3 (wsOf_get ht) rfl (inB_in hin) d (kk H locs ls hP hS hl)
theorem V_iast {i n : Nat} {j x : Int32} (hX : Ok X S cc own nL rm) (ht : (tab S)[i]? = some (cI S n)) (hin : inB j n = true) (d : decode cc pc = .ok (.iastore, 1)) (kk : ∀ w2, w2 = sI w i j.toNatClampNeg x → V X S w2 (pc + 1) lv st) : V X S w pc lv (.int x :: .int j :: rf S i :: st) := by
  obtain ⟨p, l, e, R, s, m, args, below, meth, c, Q⟩ := X
  obtain ⟨h1, h2, h3, h4, h5, h6, h7⟩ := hX
  exact fun H locs ls hP hS hl => va_iast h1 h2 h7.1 hP (wsOf_D h7.2.1) hS i 0 (wsOf_get ht) rfl (inB_in hin) d (fun H1 locs1 hP1 _ hS1 => kk _ rfl H1 locs1 ls (by rw [← wsOf_sI ht rfl]; exact hP1) hS1 hl)
theorem V_last {i n : Nat} {j : Int32} {x : Int64} (hX : Ok X S cc own nL rm) (ht : (tab S)[i]? = some (cJ S n)) (hin : inB j n = true) (d : decode cc pc = .ok (.lastore, 1)) (kk : ∀ w2, w2 = sJ w i j.toNatClampNeg x → V X S w2 (pc + 1) lv st) : V X S w pc lv (.long x :: .int j :: rf S i :: st) := by
  obtain ⟨p, l, e, R, s, m, args, below, meth, c, Q⟩ := X
  obtain ⟨h1, h2, h3, h4, h5, h6, h7⟩ := hX
  exact fun H locs ls hP hS hl => va_last h1 h2 h7.1 hP (wsOf_D h7.2.1) hS i 1 (wsOf_get ht) rfl (inB_in hin) d (fun H1 locs1 hP1 _ hS1 => kk _ rfl H1 locs1 ls (by rw [← wsOf_sJ ht rfl]; exact hP1) hS1 hl)
theorem vpz {x : Int32} (h : isZO x = true) : vp_nar .boolean x = x := by rcases isZO_or h with rfl | rfl <;> rfl
theorem V_zast {i n : Nat} {j x : Int32} (hX : Ok X S cc own nL rm) (ht : (tab S)[i]? = some (cZ S n)) (hin : inB j n = true) (hz : isZO x = true) (d : decode cc pc = .ok (.bastore, 1)) (kk : ∀ w2, w2 = sI w i j.toNatClampNeg x → V X S w2 (pc + 1) lv st) : V X S w pc lv (.int x :: .int j :: rf S i :: st) := by
  obtain ⟨p, l, e, R, s, m, args, below, meth, c, Q⟩ := X
  obtain ⟨h1, h2, h3, h4, h5, h6, h7⟩ := hX
  exact fun H locs ls hP hS hl => va_zast h1 h2 h7.1 hP (wsOf_D h7.2.1) hS i 2 (wsOf_get ht) rfl (inB_in hin) d (fun H1 locs1 hP1 _ hS1 => kk _ rfl H1 locs1 ls (by rw [← wsOf_sI ht rfl]; rw [vpz hz] at hP1; exact hP1) hS1 hl)
theorem V_alenI {i n : Nat} {v : Int32} (hX : Ok X S cc own nL rm) (ht : (tab S)[i]? = some (cI S n)) (hv : Int32.ofNat n = v) (d : decode cc pc = .ok (.arraylength, 1)) (kk : V X S w (pc + 1) lv (.int v :: st)) : V X S w pc lv (rf S i :: st) := by
  obtain ⟨p, l, e, R, s, m, args, below, meth, c, Q⟩ := X
  obtain ⟨h1, h2, h3, h4, h5, h6, h7⟩ := hX
  exact fun H locs ls hP hS hl => va_alen h1 h2 h7.1 hP i 0 (wsOf_get ht) rfl hv d (kk H locs ls hP hS hl)
theorem V_alenJ {i n : Nat} {v : Int32} (hX : Ok X S cc own nL rm) (ht : (tab S)[i]? = some (cJ S n)) (hv : Int32.ofNat n = v) (d : decode cc pc = .ok (.arraylength, 1)) (kk : V X S w (pc + 1) lv (.int v :: st)) : V X S w pc lv (rf S i :: st) := by
  obtain ⟨p, l, e, R, s, m, args, below, meth, c, Q⟩ := X
  obtain ⟨h1, h2, h3, h4, h5, h6, h7⟩ := hX
  exact fun H locs ls hP hS hl => va_alen h1 h2 h7.1 hP i 1 (wsOf_get ht) rfl hv d (kk H locs ls hP hS hl)
theorem V_alenB {i n base : Nat} {v : Int32} (hX : Ok X S cc own nL rm) (ht : (tab S)[i]? = some (cB S n base)) (hv : Int32.ofNat n = v) (d : decode cc pc = .ok (.arraylength, 1)) (kk : V X S w (pc + 1) lv (.int v :: st)) : V X S w pc lv (rf S i :: st) := by
  obtain ⟨p, l, e, R, s, m, args, below, meth, c, Q⟩ := X
  obtain ⟨h1, h2, h3, h4, h5, h6, h7⟩ := hX
  exact fun H locs ls hP hS hl => va_alen h1 h2 h7.1 hP i 3 (wsOf_get ht) rfl hv d (kk H locs ls hP hS hl)
-- Math
theorem V_max {index : Nat} {x y : Int32} (hX : Ok X S cc own nL rm) (hk : Mth own index Lib.Math.max.name Lib.Math.max.code) (hR : 1 ≤ rm.frames ∧ (st.map fun v => v.category).sum + 13 ≤ rm.locals) (d : decode cc pc = .ok (.invokestatic index, 3)) (kk : V X S w (pc + 3) lv (.int (maxI x y) :: st)) : V X S w pc lv (.int y :: .int x :: st) := by
  obtain ⟨p, l, e, R, s, m, args, below, meth, c, Q⟩ := X
  obtain ⟨h1, h2, h3, rfl, h5, h6, h7⟩ := hX
  obtain ⟨k1, k2, k3, k4⟩ := hk
  exact fun H locs ls hP hS hl => va_mmax h1 h2 hl.1.symm h5 (h6 _ k1) (h6 _ k2) (h6 _ k3) (h6 _ k4) hR.1 hR.2 (Nat.zero_le _) (Nat.zero_le _) d (kk H locs ls hP hS hl)
theorem V_min {index : Nat} {x y : Int32} (hX : Ok X S cc own nL rm) (hk : Mth own index Lib.Math.min.name Lib.Math.min.code) (hR : 1 ≤ rm.frames ∧ (st.map fun v => v.category).sum + 13 ≤ rm.locals) (d : decode cc pc = .ok (.invokestatic index, 3)) (kk : V X S w (pc + 3) lv (.int (minI x y) :: st)) : V X S w pc lv (.int y :: .int x :: st) := by
  obtain ⟨p, l, e, R, s, m, args, below, meth, c, Q⟩ := X
  obtain ⟨h1, h2, h3, rfl, h5, h6, h7⟩ := hX
  obtain ⟨k1, k2, k3, k4⟩ := hk
  exact fun H locs ls hP hS hl => va_mmin h1 h2 hl.1.symm h5 (h6 _ k1) (h6 _ k2) (h6 _ k3) (h6 _ k4) hR.1 hR.2 (Nat.zero_le _) (Nat.zero_le _) d (kk H locs ls hP hS hl)
-- calls
theorem wsV_in {index n : Nat} {C : String} {y : MethodName} {bytes : ByteArray} {ret : Option FieldType} (k : MVk own index C y bytes n ret) : GoodIn wall (wsV own index C y (wsg y bytes n ret)) := by
  obtain ⟨k1, k2, k3, k4, k5⟩ := k
  intro w hw
  unfold wsV at hw
  rcases List.mem_append.mp hw with h | h
  · simp only [List.mem_cons, List.not_mem_nil, or_false] at h
    rcases h with rfl | rfl | rfl | rfl
    · exact ⟨k1, good_of_word (wall_good k1)⟩
    · exact ⟨k2, good_of_word (wall_good k2)⟩
    · exact ⟨k3, good_of_word (wall_good k3)⟩
    · exact ⟨k4, good_of_word (wall_good k4)⟩
  · exact wall_to k5 w h
theorem wsS_in {index n : Nat} {y : MethodName} {bytes : ByteArray} {ret : Option FieldType} (k : MSk own index y bytes n ret) : GoodIn wall (va_wsS own index y (wsg y bytes n ret)) := by
  obtain ⟨k1, k2, k3, k5⟩ := k
  intro w hw
  unfold va_wsS at hw
  rcases List.mem_append.mp hw with h | h
  · simp only [List.mem_cons, List.not_mem_nil, or_false] at h
    rcases h with rfl | rfl | rfl
    · exact ⟨k1, good_of_word (wall_good k1)⟩
    · exact ⟨k2, good_of_word (wall_good k2)⟩
    · exact ⟨k3, good_of_word (wall_good k3)⟩
  · exact wall_to k5 w h
/-- the name of a method, as a call wants it -/
def MNk (y : MethodName) (C : String) (n : Nat) : Prop := y.cls = C ∧ y.cls ≠ "java/lang/invoke/MethodHandle" ∧ y.cls ≠ "java/lang/invoke/VarHandle" ∧ (parseMethodDescriptor y.desc).map (fun d => d.parameters.length) = some n
def RMk (rmc rm : Room) (maxL : Nat) : Prop := rmc.cells = 0 ∧ rmc.slots = 0 ∧ rmc.frames + 1 ≤ rm.frames ∧ 8 + (maxL + 11) + rmc.locals ≤ rm.locals
theorem V_callVi {index maxL n : Nat} {i ci : Nat} {C : String} {T : u_T} {N : Nat} {fs : (Nat → Int32) → (Nat → Int64) → (Nat → Nat) → List Value} {y : MethodName} {bytes : ByteArray} {ret : Option FieldType} {rmc : Room} {rest As : List Value} {v : Int32} {w2 : Wd} (hX : Ok X S cc own nL rm) (hk : MVk own index C y bytes maxL ret) (hy : MNk y C n) (hM : ∀ l, Met l y (wsg y bytes maxL ret) rmc (PC S w (rf S i :: As)) (QCi S (v, w2)) 0 0 (Aw S)) (ht : (tab S)[i]? = some (cO ci fs)) (hc : vwCl[ci]? = some (C, T, N)) (hR : RMk rmc rm maxL) (hn : As.length = n) (hst : st = As.reverse ++ rf S i :: rest) (hW : (rest.map fun v => v.category).sum ≤ 8) (d : decode cc pc = .ok (.invokevirtual index, 3)) (kk : V X S w2 (pc + 3) lv (.int v :: rest)) : V X S w pc lv st := by
  subst hst
  obtain ⟨p, l, e, R, s, m, args, below, meth, c, Q⟩ := X
  obtain ⟨h1, h2, h3, rfl, h5, h6, h7⟩ := hX
  obtain ⟨r1, r2, r3, r4⟩ := hR
  obtain ⟨y1, y2, y3, y4⟩ := hy
  intro H locs ls hP hS hl
  refine va_calli (va_runV (As := As) (rest := rest) ⟨h1, h2, h3, h5, h6⟩ (hM l) (cwV n h6 (wsV_in hk) rfl r1 r2 ⟨y1, y2, y3, y4⟩ ⟨r3, r4⟩) ⟨PC.blind, va_recv h7.1 hP hc (wsOf_get ht), fun U hU hW => ⟨rfl, by rw [hU]; exact hP, h7.to hW (fun q a b => by rw [hU]; exact hS.2.1 q a b)⟩⟩ rfl hn (hl.1.trans h3) rfl (lv_room hW) d ⟨Nat.zero_le _, Nat.zero_le _⟩) hS (fun q _ h => h) (fun q h => h) (fun r u t H1 locs1 ht2 hvm hp hb hz hk2 hS1 => ?_)
  cases hp
  exact kk H1 locs1 ls (by rw [← ht2]; exact hb) hS1 hl
theorem V_callVl {index maxL n : Nat} {i ci : Nat} {C : String} {T : u_T} {N : Nat} {fs : (Nat → Int32) → (Nat → Int64) → (Nat → Nat) → List Value} {y : MethodName} {bytes : ByteArray} {ret : Option FieldType} {rmc : Room} {rest As : List Value} {v : Int64} {w2 : Wd} (hX : Ok X S cc own nL rm) (hk : MVk own index C y bytes maxL ret) (hy : MNk y C n) (hM : ∀ l, Met l y (wsg y bytes maxL ret) rmc (PC S w (rf S i :: As)) (QCl S (v, w2)) 0 0 (Aw S)) (ht : (tab S)[i]? = some (cO ci fs)) (hc : vwCl[ci]? = some (C, T, N)) (hR : RMk rmc rm maxL) (hn : As.length = n) (hst : st = As.reverse ++ rf S i :: rest) (hW : (rest.map fun v => v.category).sum ≤ 8) (d : decode cc pc = .ok (.invokevirtual index, 3)) (kk : V X S w2 (pc + 3) lv (.long v :: rest)) : V X S w pc lv st := by
  subst hst
  obtain ⟨p, l, e, R, s, m, args, below, meth, c, Q⟩ := X
  obtain ⟨h1, h2, h3, rfl, h5, h6, h7⟩ := hX
  obtain ⟨r1, r2, r3, r4⟩ := hR
  obtain ⟨y1, y2, y3, y4⟩ := hy
  intro H locs ls hP hS hl
  refine va_calll (va_runV (As := As) (rest := rest) ⟨h1, h2, h3, h5, h6⟩ (hM l) (cwV n h6 (wsV_in hk) rfl r1 r2 ⟨y1, y2, y3, y4⟩ ⟨r3, r4⟩) ⟨PC.blind, va_recv h7.1 hP hc (wsOf_get ht), fun U hU hW => ⟨rfl, by rw [hU]; exact hP, h7.to hW (fun q a b => by rw [hU]; exact hS.2.1 q a b)⟩⟩ rfl hn (hl.1.trans h3) rfl (lv_room hW) d ⟨Nat.zero_le _, Nat.zero_le _⟩) hS (fun q _ h => h) (fun q h => h) (fun r u t H1 locs1 ht2 hvm hp hb hz hk2 hS1 => ?_)
  cases hp
  exact kk H1 locs1 ls (by rw [← ht2]; exact hb) hS1 hl
theorem V_callVv {index maxL n : Nat} {i ci : Nat} {C : String} {T : u_T} {N : Nat} {fs : (Nat → Int32) → (Nat → Int64) → (Nat → Nat) → List Value} {y : MethodName} {bytes : ByteArray} {ret : Option FieldType} {rmc : Room} {rest As : List Value} {w2 : Wd} (hX : Ok X S cc own nL rm) (hk : MVk own index C y bytes maxL ret) (hy : MNk y C n) (hM : ∀ l, Met l y (wsg y bytes maxL ret) rmc (PC S w (rf S i :: As)) (QCv S w2) 0 0 (Aw S)) (ht : (tab S)[i]? = some (cO ci fs)) (hc : vwCl[ci]? = some (C, T, N)) (hR : RMk rmc rm maxL) (hn : As.length = n) (hst : st = As.reverse ++ rf S i :: rest) (hW : (rest.map fun v => v.category).sum ≤ 8) (d : decode cc pc = .ok (.invokevirtual index, 3)) (kk : V X S w2 (pc + 3) lv rest) : V X S w pc lv st := by
  subst hst
  obtain ⟨p, l, e, R, s, m, args, below, meth, c, Q⟩ := X
  obtain ⟨h1, h2, h3, rfl, h5, h6, h7⟩ := hX
  obtain ⟨r1, r2, r3, r4⟩ := hR
  obtain ⟨y1, y2, y3, y4⟩ := hy
  intro H locs ls hP hS hl
  refine va_callv (va_runV (As := As) (rest := rest) ⟨h1, h2, h3, h5, h6⟩ (hM l) (cwV n h6 (wsV_in hk) rfl r1 r2 ⟨y1, y2, y3, y4⟩ ⟨r3, r4⟩) ⟨PC.blind, va_recv h7.1 hP hc (wsOf_get ht), fun U hU hW => ⟨rfl, by rw [hU]; exact hP, h7.to hW (fun q a b => by rw [hU]; exact hS.2.1 q a b)⟩⟩ rfl hn (hl.1.trans h3) rfl (lv_room hW) d ⟨Nat.zero_le _, Nat.zero_le _⟩) hS (fun q _ h => h) (fun q h => h) (fun u t H1 locs1 ht2 hvm hp hb hz hk2 hS1 => ?_)
  cases hp
  exact kk H1 locs1 ls (by rw [← ht2]; exact hb) hS1 hl
theorem V_callSi {index maxL n : Nat} {y : MethodName} {bytes : ByteArray} {ret : Option FieldType} {rmc : Room} {rest As : List Value} {v : Int32} {w2 : Wd} (hX : Ok X S cc own nL rm) (hk : MSk own index y bytes maxL ret) (hy : MNk y y.cls n) (hM : ∀ l, Met l y (wsg y bytes maxL ret) rmc (PC S w As) (QCi S (v, w2)) 0 0 (Aw S)) (hR : RMk rmc rm maxL) (hn : As.length = n) (hst : st = As.reverse ++ rest) (hW : (rest.map fun v => v.category).sum ≤ 8) (d : decode cc pc = .ok (.invokestatic index, 3)) (kk : V X S w2 (pc + 3) lv (.int v :: rest)) : V X S w pc lv st := by
  subst hst
  obtain ⟨p, l, e, R, s, m, args, below, meth, c, Q⟩ := X
  obtain ⟨h1, h2, h3, rfl, h5, h6, h7⟩ := hX
  obtain ⟨r1, r2, r3, r4⟩ := hR
  obtain ⟨y1, y2, y3, y4⟩ := hy
  intro H locs ls hP hS hl
  refine va_calli (va_runS (As := As) (rest := rest) ⟨h1, h2, h3, h5, h6⟩ (hM l) (va_cwS n h6 (wsS_in hk) rfl r1 r2 ⟨y2, y3, y4⟩ ⟨r3, r4⟩) ⟨PC.blind, fun U hU hW => ⟨rfl, by rw [hU]; exact hP, h7.to hW (fun q a b => by rw [hU]; exact hS.2.1 q a b)⟩⟩ rfl hn (hl.1.trans h3) rfl (lv_room hW) d ⟨Nat.zero_le _, Nat.zero_le _⟩) hS (fun q _ h => h) (fun q h => h) (fun r u t H1 locs1 ht2 hvm hp hb hz hk2 hS1 => ?_)
  cases hp
  exact kk H1 locs1 ls (by rw [← ht2]; exact hb) hS1 hl
theorem V_callSl {index maxL n : Nat} {y : MethodName} {bytes : ByteArray} {ret : Option FieldType} {rmc : Room} {rest As : List Value} {v : Int64} {w2 : Wd} (hX : Ok X S cc own nL rm) (hk : MSk own index y bytes maxL ret) (hy : MNk y y.cls n) (hM : ∀ l, Met l y (wsg y bytes maxL ret) rmc (PC S w As) (QCl S (v, w2)) 0 0 (Aw S)) (hR : RMk rmc rm maxL) (hn : As.length = n) (hst : st = As.reverse ++ rest) (hW : (rest.map fun v => v.category).sum ≤ 8) (d : decode cc pc = .ok (.invokestatic index, 3)) (kk : V X S w2 (pc + 3) lv (.long v :: rest)) : V X S w pc lv st := by
  subst hst
  obtain ⟨p, l, e, R, s, m, args, below, meth, c, Q⟩ := X
  obtain ⟨h1, h2, h3, rfl, h5, h6, h7⟩ := hX
  obtain ⟨r1, r2, r3, r4⟩ := hR
  obtain ⟨y1, y2, y3, y4⟩ := hy
  intro H locs ls hP hS hl
  refine va_calll (va_runS (As := As) (rest := rest) ⟨h1, h2, h3, h5, h6⟩ (hM l) (va_cwS n h6 (wsS_in hk) rfl r1 r2 ⟨y2, y3, y4⟩ ⟨r3, r4⟩) ⟨PC.blind, fun U hU hW => ⟨rfl, by rw [hU]; exact hP, h7.to hW (fun q a b => by rw [hU]; exact hS.2.1 q a b)⟩⟩ rfl hn (hl.1.trans h3) rfl (lv_room hW) d ⟨Nat.zero_le _, Nat.zero_le _⟩) hS (fun q _ h => h) (fun q h => h) (fun r u t H1 locs1 ht2 hvm hp hb hz hk2 hS1 => ?_)
  cases hp
  exact kk H1 locs1 ls (by rw [← ht2]; exact hb) hS1 hl
theorem V_callSv {index maxL n : Nat} {y : MethodName} {bytes : ByteArray} {ret : Option FieldType} {rmc : Room} {rest As : List Value} {w2 : Wd} (hX : Ok X S cc own nL rm) (hk : MSk own index y bytes maxL ret) (hy : MNk y y.cls n) (hM : ∀ l, Met l y (wsg y bytes maxL ret) rmc (PC S w As) (QCv S w2) 0 0 (Aw S)) (hR : RMk rmc rm maxL) (hn : As.length = n) (hst : st = As.reverse ++ rest) (hW : (rest.map fun v => v.category).sum ≤ 8) (d : decode cc pc = .ok (.invokestatic index, 3)) (kk : V X S w2 (pc + 3) lv rest) : V X S w pc lv st := by
  subst hst
  obtain ⟨p, l, e, R, s, m, args, below, meth, c, Q⟩ := X
  obtain ⟨h1, h2, h3, rfl, h5, h6, h7⟩ := hX
  obtain ⟨r1, r2, r3, r4⟩ := hR
  obtain ⟨y1, y2, y3, y4⟩ := hy
  intro H locs ls hP hS hl
  refine va_callv (va_runS (As := As) (rest := rest) ⟨h1, h2, h3, h5, h6⟩ (hM l) (va_cwS n h6 (wsS_in hk) rfl r1 r2 ⟨y2, y3, y4⟩ ⟨r3, r4⟩) ⟨PC.blind, fun U hU hW => ⟨rfl, by rw [hU]; exact hP, h7.to hW (fun q a b => by rw [hU]; exact hS.2.1 q a b)⟩⟩ rfl hn (hl.1.trans h3) rfl (lv_room hW) d ⟨Nat.zero_le _, Nat.zero_le _⟩) hS (fun q _ h => h) (fun q h => h) (fun u t H1 locs1 ht2 hvm hp hb hz hk2 hS1 => ?_)
  cases hp
  exact kk H1 locs1 ls (by rw [← ht2]; exact hb) hS1 hl
/-- what a method owes at its end -/
def HRt (X : Cx) (S : Sx) (cc : ByteArray) (ty : FieldType) (r : Int32 × Wd) : Prop := ∀ (v : Int32) (w : Wd) (pc : Nat) (lv : List (Nat × Value)), (v, w) = r → narrow ty (.int v) = .int v → decode cc pc = .ok (.ireturn, 1) → V X S w pc lv [.int v]
def HRl (X : Cx) (S : Sx) (cc : ByteArray) (r : Int64 × Wd) : Prop := ∀ (v : Int64) (w : Wd) (pc : Nat) (lv : List (Nat × Value)), (v, w) = r → decode cc pc = .ok (.lreturn, 1) → V X S w pc lv [.long v]
def HRv (X : Cx) (S : Sx) (cc : ByteArray) (r : Wd) : Prop := ∀ (w : Wd) (pc : Nat) (lv : List (Nat × Value)), w = r → decode cc pc = .ok (.return_, 1) → V X S w pc lv []
theorem nar_z {v : Int32} (h : isZO v = true) : narrow .boolean (.int v) = .int v := by rcases isZO_or h with rfl | rfl <;> rfl
theorem met_i {l : Launch} {y : MethodName} {maxL : Nat} {ty : FieldType} {vs : List Value} {r : Int32 × Wd} (hy : plainName y.cls = true) (hown : y.cls = own) (hn : (lg_sl vs).length ≤ maxL) (hrm : rm.cells = 0 ∧ rm.slots = 0) (body : ∀ X : Cx, Ok X S cc own maxL rm → HRt X S cc ty r → V X S w 0 (lv_args 0 vs) []) : Met l y (wsg y cc maxL (some ty)) rm (PC S w vs) (QCi S r) 0 0 (Aw S) := by
  refine Met.ofW (cc := cc) (maxL := maxL) (ret := (some ty)) hy rfl ?_
  intro p e s m args below meth c s₁ B hml hv
  obtain ⟨rfl, hP, hw⟩ := hv
  have hx := B.exec
  have hb := B.bytes
  have hr := B.returns
  have hts := atoms_spec (ws := wsg y cc maxL (some ty)) B.pre
  have hf : s.vm.findClass own = some m.cls := by rw [← hown]; exact findClass_of_methodNamed B.named
  have hlocks := B.notSynchronized
  have hl := lv_entry vs (n := maxL) hn
  rw [lg_entry_eq]
  generalize (lg_sl vs ++ List.replicate (maxL - (lg_sl vs).length) Slot.unset).toArray = ls at hl ⊢
  refine body (p, l, e, rm, s, m, _, below, meth, c, MQ below (QCi S r) vs.toArray s 0 0 (Aw S)) ⟨hx, hb, hml, rfl, hf, fun w h => hts w (List.mem_cons_of_mem _ h), hw⟩ ?_ s.heap [] ls hP va_S.rf (by rw [hml]; exact hl)
  intro v w2 pc lv e0 hnar d H locs ls2 hP2 hS2 hl2
  exact W.zret (ty := ty) hx hb hr hnar (fun t ht hW => ⟨⟨v, w2, rfl, e0, by show va_P _ _ _ _; rw [ht]; exact hP2⟩, hS2.F ht⟩) hS2.2.2 d
theorem met_l {l : Launch} {y : MethodName} {maxL : Nat} {vs : List Value} {r : Int64 × Wd} (hy : plainName y.cls = true) (hown : y.cls = own) (hn : (lg_sl vs).length ≤ maxL) (hrm : rm.cells = 0 ∧ rm.slots = 0) (body : ∀ X : Cx, Ok X S cc own maxL rm → HRl X S cc r → V X S w 0 (lv_args 0 vs) []) : Met l y (wsg y cc maxL (some .long)) rm (PC S w vs) (QCl S r) 0 0 (Aw S) := by
  refine Met.ofW (cc := cc) (maxL := maxL) (ret := (some .long)) hy rfl ?_
  intro p e s m args below meth c s₁ B hml hv
  obtain ⟨rfl, hP, hw⟩ := hv
  have hx := B.exec
  have hb := B.bytes
  have hr := B.returns
  have hts := atoms_spec (ws := wsg y cc maxL (some .long)) B.pre
  have hf : s.vm.findClass own = some m.cls := by rw [← hown]; exact findClass_of_methodNamed B.named
  have hlocks := B.notSynchronized
  have hl := lv_entry vs (n := maxL) hn
  rw [lg_entry_eq]
  generalize (lg_sl vs ++ List.replicate (maxL - (lg_sl vs).length) Slot.unset).toArray = ls at hl ⊢
  refine body (p, l, e, rm, s, m, _, below, meth, c, MQ below (QCl S r) vs.toArray s 0 0 (Aw S)) ⟨hx, hb, hml, rfl, hf, fun w h => hts w (List.mem_cons_of_mem _ h), hw⟩ ?_ s.heap [] ls hP va_S.rf (by rw [hml]; exact hl)
  intro v w2 pc lv e0 d H locs ls2 hP2 hS2 hl2
  exact W.lret hx hb hr (fun t ht hW => ⟨⟨v, w2, rfl, e0, by show va_P _ _ _ _; rw [ht]; exact hP2⟩, hS2.F ht⟩) hS2.2.2 d
theorem met_v {l : Launch} {y : MethodName} {maxL : Nat} {vs : List Value} {r : Wd} (hy : plainName y.cls = true) (hown : y.cls = own) (hn : (lg_sl vs).length ≤ maxL) (hrm : rm.cells = 0 ∧ rm.slots = 0) (body : ∀ X : Cx, Ok X S cc own maxL rm → HRv X S cc r → V X S w 0 (lv_args 0 vs) []) : Met l y (wsg y cc maxL none) rm (PC S w vs) (QCv S r) 0 0 (Aw S) := by
  refine Met.ofW (cc := cc) (maxL := maxL) (ret := none) hy rfl ?_
  intro p e s m args below meth c s₁ B hml hv
  obtain ⟨rfl, hP, hw⟩ := hv
  have hx := B.exec
  have hb := B.bytes
  have hr := B.returns
  have hts := atoms_spec (ws := wsg y cc maxL none) B.pre
  have hf : s.vm.findClass own = some m.cls := by rw [← hown]; exact findClass_of_methodNamed B.named
  have hlocks := B.notSynchronized
  have hl := lv_entry vs (n := maxL) hn
  rw [lg_entry_eq]
  generalize (lg_sl vs ++ List.replicate (maxL - (lg_sl vs).length) Slot.unset).toArray = ls at hl ⊢
  refine body (p, l, e, rm, s, m, _, below, meth, c, MQ below (QCv S r) vs.toArray s 0 0 (Aw S)) ⟨hx, hb, hml, rfl, hf, fun w h => hts w (List.mem_cons_of_mem _ h), hw⟩ ?_ s.heap [] ls hP va_S.rf (by rw [hml]; exact hl)
  intro w2 pc lv e0 d H locs ls2 hP2 hS2 hl2
  exact W.vret hx hb hr (fun t ht hW => ⟨⟨w2, rfl, e0, by show va_P _ _ _ _; rw [ht]; exact hP2⟩, hS2.F ht⟩) hS2.2.2 d

end RULES
