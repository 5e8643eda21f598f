-- ===== the class's world at the start =====
def i0F : Nat → Int32 := fun _ => 0
def tiF : Nat → Int32 := fun k => if k = 3 then 5 else if k = 5 then 2 else 0
def beF : Nat → Int32 := fun k => if k = 2 then 50 else 0
def i0L : List (Nat → Int32) := [i0F, i0F, i0F, i0F, i0F, tiF, i0F, i0F, i0F, i0F, i0F, i0F, i0F, i0F, i0F, i0F, i0F, tiF, i0F, i0F, i0F, i0F, i0F, beF, i0F, beF, i0F, beF, i0F, i0F, i0F, beF, i0F, beF, i0F, beF, i0F, beF, i0F, beF, i0F, beF, i0F, beF, i0F, beF, i0F, beF, i0F, beF, i0F, beF, i0F, beF, i0F, beF, i0F, beF, i0F, beF, i0F, i0F, i0F, i0F, i0F, i0F, beF, i0F, beF, i0F, beF, i0F, beF, i0F, beF, i0F, i0F, i0F, i0F, i0F, i0F, i0F, beF, i0F, beF, i0F, beF, i0F]
def r4F : Nat → Nat := fun k => if k = 4 then 18 else 0
def r2F : Nat → Nat := fun k => if k = 2 then 12 else 0
def r0F : Nat → Nat := fun _ => 0
def w0 : Wd := (fun a => i0L.getD a i0F, fun _ _ => 0, fun a => if a = 0 then r4F else if a = 5 then r2F else if a = 17 then r2F else r0F)
def adL (h0 : Nat) (u : Nat → Nat) : List Nat := [h0, u 0, u 1, u 2, u 3, u 4, u 5, u 6, u 7, u 8, u 9, u 10, u 11, u 12, u 13, u 14, u 15, u 16, u 17, u 18, u 19, u 20, u 21, u 22, u 23, u 24, u 25, u 26, u 27, u 28, u 29, u 30, u 31, u 32, u 33, u 34, u 35, u 36, u 37, u 38, u 39, u 40, u 41, u 42, u 43, u 44, u 45, u 46, u 47, u 48, u 49, u 50, u 51, u 52, u 53, u 54, u 55, u 56, u 57, u 58, u 59, u 60, u 61, u 62, u 63, u 64, u 65, u 66, u 67, u 68, u 69, u 70, u 71, u 72, u 73, u 74, u 75, u 76, u 77, u 78, u 79, u 80, u 81, u 82, u 83, u 84, u 85, u 86]
/-- the same words, the class's object where it was made -/
def S0 (S : Sx) (h0 : Nat) (u : Nat → Nat) : Sx := (S.1, fun i => (adL h0 u).getD i 0, S.2.2)
theorem cl_0 : (0 : Int32).toNatClampNeg = 0 := by decide
theorem cl_1 : (1 : Int32).toNatClampNeg = 1 := by decide
theorem cl_2 : (2 : Int32).toNatClampNeg = 2 := by decide
theorem cl_3 : (3 : Int32).toNatClampNeg = 3 := by decide
theorem cl_4 : (4 : Int32).toNatClampNeg = 4 := by decide
theorem cl_5 : (5 : Int32).toNatClampNeg = 5 := by decide
theorem cl_6 : (6 : Int32).toNatClampNeg = 6 := by decide
theorem cl_7 : (7 : Int32).toNatClampNeg = 7 := by decide
theorem cl_8 : (8 : Int32).toNatClampNeg = 8 := by decide
theorem cl_9 : (9 : Int32).toNatClampNeg = 9 := by decide
theorem cl_10 : (10 : Int32).toNatClampNeg = 10 := by decide
theorem cl_11 : (11 : Int32).toNatClampNeg = 11 := by decide
theorem cl_12 : (12 : Int32).toNatClampNeg = 12 := by decide
theorem cl_13 : (13 : Int32).toNatClampNeg = 13 := by decide
theorem cl_14 : (14 : Int32).toNatClampNeg = 14 := by decide
theorem cl_15 : (15 : Int32).toNatClampNeg = 15 := by decide
theorem arrV_eq {cA : ClassId} {n : Nat} {f g : Nat → Value} (h : ∀ j, j < n → f j = g j) : arrV cA n f = arrV cA n g := by
  unfold arrV
  congr 1
  exact congrArg Array.ofFn (funext fun j => h j j.isLt)
section START
variable {S : Sx} {h0 : Nat} {u : Nat → Nat} {H : Heap}
theorem st_B {G : va_G} {q n : Nat} {cA : ClassId} {f g : Nat → Option Nat} (h : va_at G vwCl (q, .inl (cA, n, .inr (.inr (.inr (.inr f))))) H) (e : ∀ j, j < n → f j = g j) : va_at G vwCl (q, .inl (cA, n, .inr (.inr (.inr (.inr g))))) H := by
  have h' : H[q]? = some (arrV cA n (fun j => va_rf (f j))) := h
  show H[q]? = some (arrV cA n (fun j => va_rf (g j)))
  rw [h', arrV_eq (g := fun j => va_rf (g j)) (fun j hj => by rw [e j hj])]
set_option maxRecDepth 100000 in
theorem st_f30 (j : Nat) (hj : j < 15) : (va_up (va_up (va_up (va_up (va_up (va_up (va_up (va_up (va_up (va_up (va_up (va_up (va_up (va_up (va_up (fun _ => none) (0 : Int32).toNatClampNeg (some (u 30))) (1 : Int32).toNatClampNeg (some (u 32))) (2 : Int32).toNatClampNeg (some (u 34))) (3 : Int32).toNatClampNeg (some (u 36))) (4 : Int32).toNatClampNeg (some (u 38))) (5 : Int32).toNatClampNeg (some (u 40))) (6 : Int32).toNatClampNeg (some (u 42))) (7 : Int32).toNatClampNeg (some (u 44))) (8 : Int32).toNatClampNeg (some (u 46))) (9 : Int32).toNatClampNeg (some (u 48))) (10 : Int32).toNatClampNeg (some (u 50))) (11 : Int32).toNatClampNeg (some (u 52))) (12 : Int32).toNatClampNeg (some (u 54))) (13 : Int32).toNatClampNeg (some (u 56))) (14 : Int32).toNatClampNeg (some (u 58))) j = some ((adL h0 u).getD (31 + 2 * j) 0) := by
  simp only [cl_0, cl_1, cl_2, cl_3, cl_4, cl_5, cl_6, cl_7, cl_8, cl_9, cl_10, cl_11, cl_12, cl_13, cl_14]
  match j, hj with
  | 0, _ => rfl
  | 1, _ => rfl
  | 2, _ => rfl
  | 3, _ => rfl
  | 4, _ => rfl
  | 5, _ => rfl
  | 6, _ => rfl
  | 7, _ => rfl
  | 8, _ => rfl
  | 9, _ => rfl
  | 10, _ => rfl
  | 11, _ => rfl
  | 12, _ => rfl
  | 13, _ => rfl
  | 14, _ => rfl
  | k + 15, h => exact absurd h (by omega)
set_option maxRecDepth 100000 in
theorem st_f61 (j : Nat) (hj : j < 3) : (va_up (va_up (va_up (fun _ => none) (0 : Int32).toNatClampNeg (some (u 81))) (1 : Int32).toNatClampNeg (some (u 83))) (2 : Int32).toNatClampNeg (some (u 85))) j = some ((adL h0 u).getD (82 + 2 * j) 0) := by
  simp only [cl_0, cl_1, cl_2]
  match j, hj with
  | 0, _ => rfl
  | 1, _ => rfl
  | 2, _ => rfl
  | k + 3, h => exact absurd h (by omega)
set_option maxRecDepth 100000 in
theorem st_f63 (j : Nat) (hj : j < 5) : (va_up (va_up (va_up (va_up (va_up (fun _ => none) (0 : Int32).toNatClampNeg (some (u 65))) (1 : Int32).toNatClampNeg (some (u 67))) (2 : Int32).toNatClampNeg (some (u 69))) (3 : Int32).toNatClampNeg (some (u 71))) (4 : Int32).toNatClampNeg (some (u 73))) j = some ((adL h0 u).getD (66 + 2 * j) 0) := by
  simp only [cl_0, cl_1, cl_2, cl_3, cl_4]
  match j, hj with
  | 0, _ => rfl
  | 1, _ => rfl
  | 2, _ => rfl
  | 3, _ => rfl
  | 4, _ => rfl
  | k + 5, h => exact absurd h (by omega)
theorem st_at {S : Sx} {k : Nat} {t : CellF} {q : Nat × va_E} (ht : (tab S)[k]? = some t) (he : va_at S.1 vwCl (adr S k, t (w0.1 k) (w0.2.1 k) (w0.2.2 k)) H) (hq : (wsOf S w0)[k]? = some q) : va_at S.1 vwCl q H := by
  have e := (wsOf_get (w := w0) ht).symm.trans hq
  rw [← Option.some.inj e]
  exact he
set_option maxRecDepth 100000 in
theorem st_c0 (hP : va_P S.1 vwCl (bk_X10 (cAr S) h0 u) H) : va_at S.1 vwCl (adr (S0 S h0 u) 0, (cO 12 (fsX10 (S0 S h0 u) 0)) (w0.1 0) (w0.2.1 0) (w0.2.2 0)) H := hP 0 _ (show (bk_X10 (cAr S) h0 u)[0]? = some (adr (S0 S h0 u) 0, (cO 12 (fsX10 (S0 S h0 u) 0)) (w0.1 0) (w0.2.1 0) (w0.2.2 0)) from rfl)
set_option maxRecDepth 100000 in
theorem st_c1 (hP : va_P S.1 vwCl (bk_X10 (cAr S) h0 u) H) : va_at S.1 vwCl (adr (S0 S h0 u) 1, (cO 10 (fsX8 (S0 S h0 u) 1)) (w0.1 1) (w0.2.1 1) (w0.2.2 1)) H := hP 1 _ (show (bk_X10 (cAr S) h0 u)[1]? = some (adr (S0 S h0 u) 1, (cO 10 (fsX8 (S0 S h0 u) 1)) (w0.1 1) (w0.2.1 1) (w0.2.2 1)) from rfl)
set_option maxRecDepth 100000 in
theorem st_c2 (hP : va_P S.1 vwCl (bk_X10 (cAr S) h0 u) H) : va_at S.1 vwCl (adr (S0 S h0 u) 2, (cI (S0 S h0 u) 80) (w0.1 2) (w0.2.1 2) (w0.2.2 2)) H := hP 2 _ (show (bk_X10 (cAr S) h0 u)[2]? = some (adr (S0 S h0 u) 2, (cI (S0 S h0 u) 80) (w0.1 2) (w0.2.1 2) (w0.2.2 2)) from rfl)
set_option maxRecDepth 100000 in
theorem st_c3 (hP : va_P S.1 vwCl (bk_X10 (cAr S) h0 u) H) : va_at S.1 vwCl (adr (S0 S h0 u) 3, (cO 9 (fsX7 (S0 S h0 u) 3)) (w0.1 3) (w0.2.1 3) (w0.2.2 3)) H := hP 3 _ (show (bk_X10 (cAr S) h0 u)[3]? = some (adr (S0 S h0 u) 3, (cO 9 (fsX7 (S0 S h0 u) 3)) (w0.1 3) (w0.2.1 3) (w0.2.2 3)) from rfl)
set_option maxRecDepth 100000 in
theorem st_c4 (hP : va_P S.1 vwCl (bk_X10 (cAr S) h0 u) H) : va_at S.1 vwCl (adr (S0 S h0 u) 4, (cJ (S0 S h0 u) 6) (w0.1 4) (w0.2.1 4) (w0.2.2 4)) H := hP 4 _ (show (bk_X10 (cAr S) h0 u)[4]? = some (adr (S0 S h0 u) 4, (cJ (S0 S h0 u) 6) (w0.1 4) (w0.2.1 4) (w0.2.2 4)) from rfl)
set_option maxRecDepth 100000 in
theorem st_c5 (hP : va_P S.1 vwCl (bk_X10 (cAr S) h0 u) H) : va_at S.1 vwCl (adr (S0 S h0 u) 5, (cO 11 (fsX9 (S0 S h0 u) 5)) (w0.1 5) (w0.2.1 5) (w0.2.2 5)) H := hP 5 _ (show (bk_X10 (cAr S) h0 u)[5]? = some (adr (S0 S h0 u) 5, (cO 11 (fsX9 (S0 S h0 u) 5)) (w0.1 5) (w0.2.1 5) (w0.2.2 5)) from rfl)
set_option maxRecDepth 100000 in
theorem st_c6 (hP : va_P S.1 vwCl (bk_X10 (cAr S) h0 u) H) : va_at S.1 vwCl (adr (S0 S h0 u) 6, (cO 7 (fsX5 (S0 S h0 u) 6)) (w0.1 6) (w0.2.1 6) (w0.2.2 6)) H := hP 6 _ (show (bk_X10 (cAr S) h0 u)[6]? = some (adr (S0 S h0 u) 6, (cO 7 (fsX5 (S0 S h0 u) 6)) (w0.1 6) (w0.2.1 6) (w0.2.2 6)) from rfl)
set_option maxRecDepth 100000 in
theorem st_c7 (hP : va_P S.1 vwCl (bk_X10 (cAr S) h0 u) H) : va_at S.1 vwCl (adr (S0 S h0 u) 7, (cI (S0 S h0 u) 8) (w0.1 7) (w0.2.1 7) (w0.2.2 7)) H := hP 7 _ (show (bk_X10 (cAr S) h0 u)[7]? = some (adr (S0 S h0 u) 7, (cI (S0 S h0 u) 8) (w0.1 7) (w0.2.1 7) (w0.2.2 7)) from rfl)
set_option maxRecDepth 100000 in
theorem st_c8 (hP : va_P S.1 vwCl (bk_X10 (cAr S) h0 u) H) : va_at S.1 vwCl (adr (S0 S h0 u) 8, (cI (S0 S h0 u) 8) (w0.1 8) (w0.2.1 8) (w0.2.2 8)) H := hP 8 _ (show (bk_X10 (cAr S) h0 u)[8]? = some (adr (S0 S h0 u) 8, (cI (S0 S h0 u) 8) (w0.1 8) (w0.2.1 8) (w0.2.2 8)) from rfl)
set_option maxRecDepth 100000 in
theorem st_c9 (hP : va_P S.1 vwCl (bk_X10 (cAr S) h0 u) H) : va_at S.1 vwCl (adr (S0 S h0 u) 9, (cO 7 (fsX5 (S0 S h0 u) 9)) (w0.1 9) (w0.2.1 9) (w0.2.2 9)) H := hP 9 _ (show (bk_X10 (cAr S) h0 u)[9]? = some (adr (S0 S h0 u) 9, (cO 7 (fsX5 (S0 S h0 u) 9)) (w0.1 9) (w0.2.1 9) (w0.2.2 9)) from rfl)
set_option maxRecDepth 100000 in
theorem st_c10 (hP : va_P S.1 vwCl (bk_X10 (cAr S) h0 u) H) : va_at S.1 vwCl (adr (S0 S h0 u) 10, (cI (S0 S h0 u) 8) (w0.1 10) (w0.2.1 10) (w0.2.2 10)) H := hP 10 _ (show (bk_X10 (cAr S) h0 u)[10]? = some (adr (S0 S h0 u) 10, (cI (S0 S h0 u) 8) (w0.1 10) (w0.2.1 10) (w0.2.2 10)) from rfl)
set_option maxRecDepth 100000 in
theorem st_c11 (hP : va_P S.1 vwCl (bk_X10 (cAr S) h0 u) H) : va_at S.1 vwCl (adr (S0 S h0 u) 11, (cI (S0 S h0 u) 8) (w0.1 11) (w0.2.1 11) (w0.2.2 11)) H := hP 11 _ (show (bk_X10 (cAr S) h0 u)[11]? = some (adr (S0 S h0 u) 11, (cI (S0 S h0 u) 8) (w0.1 11) (w0.2.1 11) (w0.2.2 11)) from rfl)
set_option maxRecDepth 100000 in
theorem st_c12 (hP : va_P S.1 vwCl (bk_X10 (cAr S) h0 u) H) : va_at S.1 vwCl (adr (S0 S h0 u) 12, (cO 4 (fsX2 (S0 S h0 u) 12)) (w0.1 12) (w0.2.1 12) (w0.2.2 12)) H := hP 12 _ (show (bk_X10 (cAr S) h0 u)[12]? = some (adr (S0 S h0 u) 12, (cO 4 (fsX2 (S0 S h0 u) 12)) (w0.1 12) (w0.2.1 12) (w0.2.2 12)) from rfl)
set_option maxRecDepth 100000 in
theorem st_c13 (hP : va_P S.1 vwCl (bk_X10 (cAr S) h0 u) H) : va_at S.1 vwCl (adr (S0 S h0 u) 13, (cI (S0 S h0 u) 40) (w0.1 13) (w0.2.1 13) (w0.2.2 13)) H := hP 13 _ (show (bk_X10 (cAr S) h0 u)[13]? = some (adr (S0 S h0 u) 13, (cI (S0 S h0 u) 40) (w0.1 13) (w0.2.1 13) (w0.2.2 13)) from rfl)
set_option maxRecDepth 100000 in
theorem st_c14 (hP : va_P S.1 vwCl (bk_X10 (cAr S) h0 u) H) : va_at S.1 vwCl (adr (S0 S h0 u) 14, (cI (S0 S h0 u) 7) (w0.1 14) (w0.2.1 14) (w0.2.2 14)) H := hP 14 _ (show (bk_X10 (cAr S) h0 u)[14]? = some (adr (S0 S h0 u) 14, (cI (S0 S h0 u) 7) (w0.1 14) (w0.2.1 14) (w0.2.2 14)) from rfl)
set_option maxRecDepth 100000 in
theorem st_c15 (hP : va_P S.1 vwCl (bk_X10 (cAr S) h0 u) H) : va_at S.1 vwCl (adr (S0 S h0 u) 15, (cI (S0 S h0 u) 41) (w0.1 15) (w0.2.1 15) (w0.2.2 15)) H := hP 15 _ (show (bk_X10 (cAr S) h0 u)[15]? = some (adr (S0 S h0 u) 15, (cI (S0 S h0 u) 41) (w0.1 15) (w0.2.1 15) (w0.2.2 15)) from rfl)
set_option maxRecDepth 100000 in
theorem st_c16 (hP : va_P S.1 vwCl (bk_X10 (cAr S) h0 u) H) : va_at S.1 vwCl (adr (S0 S h0 u) 16, (cI (S0 S h0 u) 40) (w0.1 16) (w0.2.1 16) (w0.2.2 16)) H := hP 16 _ (show (bk_X10 (cAr S) h0 u)[16]? = some (adr (S0 S h0 u) 16, (cI (S0 S h0 u) 40) (w0.1 16) (w0.2.1 16) (w0.2.2 16)) from rfl)
set_option maxRecDepth 100000 in
theorem st_c17 (hP : va_P S.1 vwCl (bk_X10 (cAr S) h0 u) H) : va_at S.1 vwCl (adr (S0 S h0 u) 17, (cO 11 (fsX9 (S0 S h0 u) 17)) (w0.1 17) (w0.2.1 17) (w0.2.2 17)) H := hP 17 _ (show (bk_X10 (cAr S) h0 u)[17]? = some (adr (S0 S h0 u) 17, (cO 11 (fsX9 (S0 S h0 u) 17)) (w0.1 17) (w0.2.1 17) (w0.2.2 17)) from rfl)
set_option maxRecDepth 100000 in
theorem st_c18 (hP : va_P S.1 vwCl (bk_X10 (cAr S) h0 u) H) : va_at S.1 vwCl (adr (S0 S h0 u) 18, (cO 4 (fsX2 (S0 S h0 u) 18)) (w0.1 18) (w0.2.1 18) (w0.2.2 18)) H := hP 18 _ (show (bk_X10 (cAr S) h0 u)[18]? = some (adr (S0 S h0 u) 18, (cO 4 (fsX2 (S0 S h0 u) 18)) (w0.1 18) (w0.2.1 18) (w0.2.2 18)) from rfl)
set_option maxRecDepth 100000 in
theorem st_c19 (hP : va_P S.1 vwCl (bk_X10 (cAr S) h0 u) H) : va_at S.1 vwCl (adr (S0 S h0 u) 19, (cI (S0 S h0 u) 40) (w0.1 19) (w0.2.1 19) (w0.2.2 19)) H := hP 19 _ (show (bk_X10 (cAr S) h0 u)[19]? = some (adr (S0 S h0 u) 19, (cI (S0 S h0 u) 40) (w0.1 19) (w0.2.1 19) (w0.2.2 19)) from rfl)
set_option maxRecDepth 100000 in
theorem st_c20 (hP : va_P S.1 vwCl (bk_X10 (cAr S) h0 u) H) : va_at S.1 vwCl (adr (S0 S h0 u) 20, (cI (S0 S h0 u) 7) (w0.1 20) (w0.2.1 20) (w0.2.2 20)) H := hP 20 _ (show (bk_X10 (cAr S) h0 u)[20]? = some (adr (S0 S h0 u) 20, (cI (S0 S h0 u) 7) (w0.1 20) (w0.2.1 20) (w0.2.2 20)) from rfl)
set_option maxRecDepth 100000 in
theorem st_c21 (hP : va_P S.1 vwCl (bk_X10 (cAr S) h0 u) H) : va_at S.1 vwCl (adr (S0 S h0 u) 21, (cI (S0 S h0 u) 41) (w0.1 21) (w0.2.1 21) (w0.2.2 21)) H := hP 21 _ (show (bk_X10 (cAr S) h0 u)[21]? = some (adr (S0 S h0 u) 21, (cI (S0 S h0 u) 41) (w0.1 21) (w0.2.1 21) (w0.2.2 21)) from rfl)
set_option maxRecDepth 100000 in
theorem st_c22 (hP : va_P S.1 vwCl (bk_X10 (cAr S) h0 u) H) : va_at S.1 vwCl (adr (S0 S h0 u) 22, (cI (S0 S h0 u) 40) (w0.1 22) (w0.2.1 22) (w0.2.2 22)) H := hP 22 _ (show (bk_X10 (cAr S) h0 u)[22]? = some (adr (S0 S h0 u) 22, (cI (S0 S h0 u) 40) (w0.1 22) (w0.2.1 22) (w0.2.2 22)) from rfl)
set_option maxRecDepth 100000 in
theorem st_c23 (hP : va_P S.1 vwCl (bk_X10 (cAr S) h0 u) H) : va_at S.1 vwCl (adr (S0 S h0 u) 23, (cO 3 (fsX1 (S0 S h0 u) 23)) (w0.1 23) (w0.2.1 23) (w0.2.2 23)) H := hP 23 _ (show (bk_X10 (cAr S) h0 u)[23]? = some (adr (S0 S h0 u) 23, (cO 3 (fsX1 (S0 S h0 u) 23)) (w0.1 23) (w0.2.1 23) (w0.2.2 23)) from rfl)
set_option maxRecDepth 100000 in
theorem st_c24 (hP : va_P S.1 vwCl (bk_X10 (cAr S) h0 u) H) : va_at S.1 vwCl (adr (S0 S h0 u) 24, (cI (S0 S h0 u) 8) (w0.1 24) (w0.2.1 24) (w0.2.2 24)) H := hP 24 _ (show (bk_X10 (cAr S) h0 u)[24]? = some (adr (S0 S h0 u) 24, (cI (S0 S h0 u) 8) (w0.1 24) (w0.2.1 24) (w0.2.2 24)) from rfl)
set_option maxRecDepth 100000 in
theorem st_c25 (hP : va_P S.1 vwCl (bk_X10 (cAr S) h0 u) H) : va_at S.1 vwCl (adr (S0 S h0 u) 25, (cO 3 (fsX1 (S0 S h0 u) 25)) (w0.1 25) (w0.2.1 25) (w0.2.2 25)) H := hP 25 _ (show (bk_X10 (cAr S) h0 u)[25]? = some (adr (S0 S h0 u) 25, (cO 3 (fsX1 (S0 S h0 u) 25)) (w0.1 25) (w0.2.1 25) (w0.2.2 25)) from rfl)
set_option maxRecDepth 100000 in
theorem st_c26 (hP : va_P S.1 vwCl (bk_X10 (cAr S) h0 u) H) : va_at S.1 vwCl (adr (S0 S h0 u) 26, (cI (S0 S h0 u) 8) (w0.1 26) (w0.2.1 26) (w0.2.2 26)) H := hP 26 _ (show (bk_X10 (cAr S) h0 u)[26]? = some (adr (S0 S h0 u) 26, (cI (S0 S h0 u) 8) (w0.1 26) (w0.2.1 26) (w0.2.2 26)) from rfl)
set_option maxRecDepth 100000 in
theorem st_c27 (hP : va_P S.1 vwCl (bk_X10 (cAr S) h0 u) H) : va_at S.1 vwCl (adr (S0 S h0 u) 27, (cO 3 (fsX1 (S0 S h0 u) 27)) (w0.1 27) (w0.2.1 27) (w0.2.2 27)) H := hP 27 _ (show (bk_X10 (cAr S) h0 u)[27]? = some (adr (S0 S h0 u) 27, (cO 3 (fsX1 (S0 S h0 u) 27)) (w0.1 27) (w0.2.1 27) (w0.2.2 27)) from rfl)
set_option maxRecDepth 100000 in
theorem st_c28 (hP : va_P S.1 vwCl (bk_X10 (cAr S) h0 u) H) : va_at S.1 vwCl (adr (S0 S h0 u) 28, (cI (S0 S h0 u) 8) (w0.1 28) (w0.2.1 28) (w0.2.2 28)) H := hP 28 _ (show (bk_X10 (cAr S) h0 u)[28]? = some (adr (S0 S h0 u) 28, (cI (S0 S h0 u) 8) (w0.1 28) (w0.2.1 28) (w0.2.2 28)) from rfl)
set_option maxRecDepth 100000 in
theorem st_c29 (hP : va_P S.1 vwCl (bk_X10 (cAr S) h0 u) H) : va_at S.1 vwCl (adr (S0 S h0 u) 29, (cO 6 (fsX4 (S0 S h0 u) 29)) (w0.1 29) (w0.2.1 29) (w0.2.2 29)) H := hP 29 _ (show (bk_X10 (cAr S) h0 u)[29]? = some (adr (S0 S h0 u) 29, (cO 6 (fsX4 (S0 S h0 u) 29)) (w0.1 29) (w0.2.1 29) (w0.2.2 29)) from rfl)
set_option maxRecDepth 100000 in
theorem st_c30 (hP : va_P S.1 vwCl (bk_X10 (cAr S) h0 u) H) : va_at S.1 vwCl (adr (S0 S h0 u) 30, (cB (S0 S h0 u) 15 31) (w0.1 30) (w0.2.1 30) (w0.2.2 30)) H := st_B (hP 30 _ (show (bk_X10 (cAr S) h0 u)[30]? = some (adr (S0 S h0 u) 30, .inl (cAr S 3, 15, .inr (.inr (.inr (.inr (va_up (va_up (va_up (va_up (va_up (va_up (va_up (va_up (va_up (va_up (va_up (va_up (va_up (va_up (va_up (fun _ => none) (0 : Int32).toNatClampNeg (some (u 30))) (1 : Int32).toNatClampNeg (some (u 32))) (2 : Int32).toNatClampNeg (some (u 34))) (3 : Int32).toNatClampNeg (some (u 36))) (4 : Int32).toNatClampNeg (some (u 38))) (5 : Int32).toNatClampNeg (some (u 40))) (6 : Int32).toNatClampNeg (some (u 42))) (7 : Int32).toNatClampNeg (some (u 44))) (8 : Int32).toNatClampNeg (some (u 46))) (9 : Int32).toNatClampNeg (some (u 48))) (10 : Int32).toNatClampNeg (some (u 50))) (11 : Int32).toNatClampNeg (some (u 52))) (12 : Int32).toNatClampNeg (some (u 54))) (13 : Int32).toNatClampNeg (some (u 56))) (14 : Int32).toNatClampNeg (some (u 58)))))))) from rfl)) st_f30
set_option maxRecDepth 100000 in
theorem st_c31 (hP : va_P S.1 vwCl (bk_X10 (cAr S) h0 u) H) : va_at S.1 vwCl (adr (S0 S h0 u) 31, (cO 3 (fsX1 (S0 S h0 u) 31)) (w0.1 31) (w0.2.1 31) (w0.2.2 31)) H := hP 31 _ (show (bk_X10 (cAr S) h0 u)[31]? = some (adr (S0 S h0 u) 31, (cO 3 (fsX1 (S0 S h0 u) 31)) (w0.1 31) (w0.2.1 31) (w0.2.2 31)) from rfl)
set_option maxRecDepth 100000 in
theorem st_c32 (hP : va_P S.1 vwCl (bk_X10 (cAr S) h0 u) H) : va_at S.1 vwCl (adr (S0 S h0 u) 32, (cI (S0 S h0 u) 8) (w0.1 32) (w0.2.1 32) (w0.2.2 32)) H := hP 32 _ (show (bk_X10 (cAr S) h0 u)[32]? = some (adr (S0 S h0 u) 32, (cI (S0 S h0 u) 8) (w0.1 32) (w0.2.1 32) (w0.2.2 32)) from rfl)
set_option maxRecDepth 100000 in
theorem st_c33 (hP : va_P S.1 vwCl (bk_X10 (cAr S) h0 u) H) : va_at S.1 vwCl (adr (S0 S h0 u) 33, (cO 3 (fsX1 (S0 S h0 u) 33)) (w0.1 33) (w0.2.1 33) (w0.2.2 33)) H := hP 33 _ (show (bk_X10 (cAr S) h0 u)[33]? = some (adr (S0 S h0 u) 33, (cO 3 (fsX1 (S0 S h0 u) 33)) (w0.1 33) (w0.2.1 33) (w0.2.2 33)) from rfl)
set_option maxRecDepth 100000 in
theorem st_c34 (hP : va_P S.1 vwCl (bk_X10 (cAr S) h0 u) H) : va_at S.1 vwCl (adr (S0 S h0 u) 34, (cI (S0 S h0 u) 8) (w0.1 34) (w0.2.1 34) (w0.2.2 34)) H := hP 34 _ (show (bk_X10 (cAr S) h0 u)[34]? = some (adr (S0 S h0 u) 34, (cI (S0 S h0 u) 8) (w0.1 34) (w0.2.1 34) (w0.2.2 34)) from rfl)
set_option maxRecDepth 100000 in
theorem st_c35 (hP : va_P S.1 vwCl (bk_X10 (cAr S) h0 u) H) : va_at S.1 vwCl (adr (S0 S h0 u) 35, (cO 3 (fsX1 (S0 S h0 u) 35)) (w0.1 35) (w0.2.1 35) (w0.2.2 35)) H := hP 35 _ (show (bk_X10 (cAr S) h0 u)[35]? = some (adr (S0 S h0 u) 35, (cO 3 (fsX1 (S0 S h0 u) 35)) (w0.1 35) (w0.2.1 35) (w0.2.2 35)) from rfl)
set_option maxRecDepth 100000 in
theorem st_c36 (hP : va_P S.1 vwCl (bk_X10 (cAr S) h0 u) H) : va_at S.1 vwCl (adr (S0 S h0 u) 36, (cI (S0 S h0 u) 8) (w0.1 36) (w0.2.1 36) (w0.2.2 36)) H := hP 36 _ (show (bk_X10 (cAr S) h0 u)[36]? = some (adr (S0 S h0 u) 36, (cI (S0 S h0 u) 8) (w0.1 36) (w0.2.1 36) (w0.2.2 36)) from rfl)
set_option maxRecDepth 100000 in
theorem st_c37 (hP : va_P S.1 vwCl (bk_X10 (cAr S) h0 u) H) : va_at S.1 vwCl (adr (S0 S h0 u) 37, (cO 3 (fsX1 (S0 S h0 u) 37)) (w0.1 37) (w0.2.1 37) (w0.2.2 37)) H := hP 37 _ (show (bk_X10 (cAr S) h0 u)[37]? = some (adr (S0 S h0 u) 37, (cO 3 (fsX1 (S0 S h0 u) 37)) (w0.1 37) (w0.2.1 37) (w0.2.2 37)) from rfl)
set_option maxRecDepth 100000 in
theorem st_c38 (hP : va_P S.1 vwCl (bk_X10 (cAr S) h0 u) H) : va_at S.1 vwCl (adr (S0 S h0 u) 38, (cI (S0 S h0 u) 8) (w0.1 38) (w0.2.1 38) (w0.2.2 38)) H := hP 38 _ (show (bk_X10 (cAr S) h0 u)[38]? = some (adr (S0 S h0 u) 38, (cI (S0 S h0 u) 8) (w0.1 38) (w0.2.1 38) (w0.2.2 38)) from rfl)
set_option maxRecDepth 100000 in
theorem st_c39 (hP : va_P S.1 vwCl (bk_X10 (cAr S) h0 u) H) : va_at S.1 vwCl (adr (S0 S h0 u) 39, (cO 3 (fsX1 (S0 S h0 u) 39)) (w0.1 39) (w0.2.1 39) (w0.2.2 39)) H := hP 39 _ (show (bk_X10 (cAr S) h0 u)[39]? = some (adr (S0 S h0 u) 39, (cO 3 (fsX1 (S0 S h0 u) 39)) (w0.1 39) (w0.2.1 39) (w0.2.2 39)) from rfl)
set_option maxRecDepth 100000 in
theorem st_c40 (hP : va_P S.1 vwCl (bk_X10 (cAr S) h0 u) H) : va_at S.1 vwCl (adr (S0 S h0 u) 40, (cI (S0 S h0 u) 8) (w0.1 40) (w0.2.1 40) (w0.2.2 40)) H := hP 40 _ (show (bk_X10 (cAr S) h0 u)[40]? = some (adr (S0 S h0 u) 40, (cI (S0 S h0 u) 8) (w0.1 40) (w0.2.1 40) (w0.2.2 40)) from rfl)
set_option maxRecDepth 100000 in
theorem st_c41 (hP : va_P S.1 vwCl (bk_X10 (cAr S) h0 u) H) : va_at S.1 vwCl (adr (S0 S h0 u) 41, (cO 3 (fsX1 (S0 S h0 u) 41)) (w0.1 41) (w0.2.1 41) (w0.2.2 41)) H := hP 41 _ (show (bk_X10 (cAr S) h0 u)[41]? = some (adr (S0 S h0 u) 41, (cO 3 (fsX1 (S0 S h0 u) 41)) (w0.1 41) (w0.2.1 41) (w0.2.2 41)) from rfl)
set_option maxRecDepth 100000 in
theorem st_c42 (hP : va_P S.1 vwCl (bk_X10 (cAr S) h0 u) H) : va_at S.1 vwCl (adr (S0 S h0 u) 42, (cI (S0 S h0 u) 8) (w0.1 42) (w0.2.1 42) (w0.2.2 42)) H := hP 42 _ (show (bk_X10 (cAr S) h0 u)[42]? = some (adr (S0 S h0 u) 42, (cI (S0 S h0 u) 8) (w0.1 42) (w0.2.1 42) (w0.2.2 42)) from rfl)
set_option maxRecDepth 100000 in
theorem st_c43 (hP : va_P S.1 vwCl (bk_X10 (cAr S) h0 u) H) : va_at S.1 vwCl (adr (S0 S h0 u) 43, (cO 3 (fsX1 (S0 S h0 u) 43)) (w0.1 43) (w0.2.1 43) (w0.2.2 43)) H := hP 43 _ (show (bk_X10 (cAr S) h0 u)[43]? = some (adr (S0 S h0 u) 43, (cO 3 (fsX1 (S0 S h0 u) 43)) (w0.1 43) (w0.2.1 43) (w0.2.2 43)) from rfl)
set_option maxRecDepth 100000 in
theorem st_c44 (hP : va_P S.1 vwCl (bk_X10 (cAr S) h0 u) H) : va_at S.1 vwCl (adr (S0 S h0 u) 44, (cI (S0 S h0 u) 8) (w0.1 44) (w0.2.1 44) (w0.2.2 44)) H := hP 44 _ (show (bk_X10 (cAr S) h0 u)[44]? = some (adr (S0 S h0 u) 44, (cI (S0 S h0 u) 8) (w0.1 44) (w0.2.1 44) (w0.2.2 44)) from rfl)
set_option maxRecDepth 100000 in
theorem st_c45 (hP : va_P S.1 vwCl (bk_X10 (cAr S) h0 u) H) : va_at S.1 vwCl (adr (S0 S h0 u) 45, (cO 3 (fsX1 (S0 S h0 u) 45)) (w0.1 45) (w0.2.1 45) (w0.2.2 45)) H := hP 45 _ (show (bk_X10 (cAr S) h0 u)[45]? = some (adr (S0 S h0 u) 45, (cO 3 (fsX1 (S0 S h0 u) 45)) (w0.1 45) (w0.2.1 45) (w0.2.2 45)) from rfl)
set_option maxRecDepth 100000 in
theorem st_c46 (hP : va_P S.1 vwCl (bk_X10 (cAr S) h0 u) H) : va_at S.1 vwCl (adr (S0 S h0 u) 46, (cI (S0 S h0 u) 8) (w0.1 46) (w0.2.1 46) (w0.2.2 46)) H := hP 46 _ (show (bk_X10 (cAr S) h0 u)[46]? = some (adr (S0 S h0 u) 46, (cI (S0 S h0 u) 8) (w0.1 46) (w0.2.1 46) (w0.2.2 46)) from rfl)
set_option maxRecDepth 100000 in
theorem st_c47 (hP : va_P S.1 vwCl (bk_X10 (cAr S) h0 u) H) : va_at S.1 vwCl (adr (S0 S h0 u) 47, (cO 3 (fsX1 (S0 S h0 u) 47)) (w0.1 47) (w0.2.1 47) (w0.2.2 47)) H := hP 47 _ (show (bk_X10 (cAr S) h0 u)[47]? = some (adr (S0 S h0 u) 47, (cO 3 (fsX1 (S0 S h0 u) 47)) (w0.1 47) (w0.2.1 47) (w0.2.2 47)) from rfl)
set_option maxRecDepth 100000 in
theorem st_c48 (hP : va_P S.1 vwCl (bk_X10 (cAr S) h0 u) H) : va_at S.1 vwCl (adr (S0 S h0 u) 48, (cI (S0 S h0 u) 8) (w0.1 48) (w0.2.1 48) (w0.2.2 48)) H := hP 48 _ (show (bk_X10 (cAr S) h0 u)[48]? = some (adr (S0 S h0 u) 48, (cI (S0 S h0 u) 8) (w0.1 48) (w0.2.1 48) (w0.2.2 48)) from rfl)
set_option maxRecDepth 100000 in
theorem st_c49 (hP : va_P S.1 vwCl (bk_X10 (cAr S) h0 u) H) : va_at S.1 vwCl (adr (S0 S h0 u) 49, (cO 3 (fsX1 (S0 S h0 u) 49)) (w0.1 49) (w0.2.1 49) (w0.2.2 49)) H := hP 49 _ (show (bk_X10 (cAr S) h0 u)[49]? = some (adr (S0 S h0 u) 49, (cO 3 (fsX1 (S0 S h0 u) 49)) (w0.1 49) (w0.2.1 49) (w0.2.2 49)) from rfl)
set_option maxRecDepth 100000 in
theorem st_c50 (hP : va_P S.1 vwCl (bk_X10 (cAr S) h0 u) H) : va_at S.1 vwCl (adr (S0 S h0 u) 50, (cI (S0 S h0 u) 8) (w0.1 50) (w0.2.1 50) (w0.2.2 50)) H := hP 50 _ (show (bk_X10 (cAr S) h0 u)[50]? = some (adr (S0 S h0 u) 50, (cI (S0 S h0 u) 8) (w0.1 50) (w0.2.1 50) (w0.2.2 50)) from rfl)
set_option maxRecDepth 100000 in
theorem st_c51 (hP : va_P S.1 vwCl (bk_X10 (cAr S) h0 u) H) : va_at S.1 vwCl (adr (S0 S h0 u) 51, (cO 3 (fsX1 (S0 S h0 u) 51)) (w0.1 51) (w0.2.1 51) (w0.2.2 51)) H := hP 51 _ (show (bk_X10 (cAr S) h0 u)[51]? = some (adr (S0 S h0 u) 51, (cO 3 (fsX1 (S0 S h0 u) 51)) (w0.1 51) (w0.2.1 51) (w0.2.2 51)) from rfl)
set_option maxRecDepth 100000 in
theorem st_c52 (hP : va_P S.1 vwCl (bk_X10 (cAr S) h0 u) H) : va_at S.1 vwCl (adr (S0 S h0 u) 52, (cI (S0 S h0 u) 8) (w0.1 52) (w0.2.1 52) (w0.2.2 52)) H := hP 52 _ (show (bk_X10 (cAr S) h0 u)[52]? = some (adr (S0 S h0 u) 52, (cI (S0 S h0 u) 8) (w0.1 52) (w0.2.1 52) (w0.2.2 52)) from rfl)
set_option maxRecDepth 100000 in
theorem st_c53 (hP : va_P S.1 vwCl (bk_X10 (cAr S) h0 u) H) : va_at S.1 vwCl (adr (S0 S h0 u) 53, (cO 3 (fsX1 (S0 S h0 u) 53)) (w0.1 53) (w0.2.1 53) (w0.2.2 53)) H := hP 53 _ (show (bk_X10 (cAr S) h0 u)[53]? = some (adr (S0 S h0 u) 53, (cO 3 (fsX1 (S0 S h0 u) 53)) (w0.1 53) (w0.2.1 53) (w0.2.2 53)) from rfl)
set_option maxRecDepth 100000 in
theorem st_c54 (hP : va_P S.1 vwCl (bk_X10 (cAr S) h0 u) H) : va_at S.1 vwCl (adr (S0 S h0 u) 54, (cI (S0 S h0 u) 8) (w0.1 54) (w0.2.1 54) (w0.2.2 54)) H := hP 54 _ (show (bk_X10 (cAr S) h0 u)[54]? = some (adr (S0 S h0 u) 54, (cI (S0 S h0 u) 8) (w0.1 54) (w0.2.1 54) (w0.2.2 54)) from rfl)
set_option maxRecDepth 100000 in
theorem st_c55 (hP : va_P S.1 vwCl (bk_X10 (cAr S) h0 u) H) : va_at S.1 vwCl (adr (S0 S h0 u) 55, (cO 3 (fsX1 (S0 S h0 u) 55)) (w0.1 55) (w0.2.1 55) (w0.2.2 55)) H := hP 55 _ (show (bk_X10 (cAr S) h0 u)[55]? = some (adr (S0 S h0 u) 55, (cO 3 (fsX1 (S0 S h0 u) 55)) (w0.1 55) (w0.2.1 55) (w0.2.2 55)) from rfl)
set_option maxRecDepth 100000 in
theorem st_c56 (hP : va_P S.1 vwCl (bk_X10 (cAr S) h0 u) H) : va_at S.1 vwCl (adr (S0 S h0 u) 56, (cI (S0 S h0 u) 8) (w0.1 56) (w0.2.1 56) (w0.2.2 56)) H := hP 56 _ (show (bk_X10 (cAr S) h0 u)[56]? = some (adr (S0 S h0 u) 56, (cI (S0 S h0 u) 8) (w0.1 56) (w0.2.1 56) (w0.2.2 56)) from rfl)
set_option maxRecDepth 100000 in
theorem st_c57 (hP : va_P S.1 vwCl (bk_X10 (cAr S) h0 u) H) : va_at S.1 vwCl (adr (S0 S h0 u) 57, (cO 3 (fsX1 (S0 S h0 u) 57)) (w0.1 57) (w0.2.1 57) (w0.2.2 57)) H := hP 57 _ (show (bk_X10 (cAr S) h0 u)[57]? = some (adr (S0 S h0 u) 57, (cO 3 (fsX1 (S0 S h0 u) 57)) (w0.1 57) (w0.2.1 57) (w0.2.2 57)) from rfl)
set_option maxRecDepth 100000 in
theorem st_c58 (hP : va_P S.1 vwCl (bk_X10 (cAr S) h0 u) H) : va_at S.1 vwCl (adr (S0 S h0 u) 58, (cI (S0 S h0 u) 8) (w0.1 58) (w0.2.1 58) (w0.2.2 58)) H := hP 58 _ (show (bk_X10 (cAr S) h0 u)[58]? = some (adr (S0 S h0 u) 58, (cI (S0 S h0 u) 8) (w0.1 58) (w0.2.1 58) (w0.2.2 58)) from rfl)
set_option maxRecDepth 100000 in
theorem st_c59 (hP : va_P S.1 vwCl (bk_X10 (cAr S) h0 u) H) : va_at S.1 vwCl (adr (S0 S h0 u) 59, (cO 3 (fsX1 (S0 S h0 u) 59)) (w0.1 59) (w0.2.1 59) (w0.2.2 59)) H := hP 59 _ (show (bk_X10 (cAr S) h0 u)[59]? = some (adr (S0 S h0 u) 59, (cO 3 (fsX1 (S0 S h0 u) 59)) (w0.1 59) (w0.2.1 59) (w0.2.2 59)) from rfl)
set_option maxRecDepth 100000 in
theorem st_c60 (hP : va_P S.1 vwCl (bk_X10 (cAr S) h0 u) H) : va_at S.1 vwCl (adr (S0 S h0 u) 60, (cI (S0 S h0 u) 8) (w0.1 60) (w0.2.1 60) (w0.2.2 60)) H := hP 60 _ (show (bk_X10 (cAr S) h0 u)[60]? = some (adr (S0 S h0 u) 60, (cI (S0 S h0 u) 8) (w0.1 60) (w0.2.1 60) (w0.2.2 60)) from rfl)
set_option maxRecDepth 100000 in
theorem st_c61 (hP : va_P S.1 vwCl (bk_X10 (cAr S) h0 u) H) : va_at S.1 vwCl (adr (S0 S h0 u) 61, (cB (S0 S h0 u) 3 82) (w0.1 61) (w0.2.1 61) (w0.2.2 61)) H := st_B (hP 61 _ (show (bk_X10 (cAr S) h0 u)[61]? = some (adr (S0 S h0 u) 61, .inl (cAr S 3, 3, .inr (.inr (.inr (.inr (va_up (va_up (va_up (fun _ => none) (0 : Int32).toNatClampNeg (some (u 81))) (1 : Int32).toNatClampNeg (some (u 83))) (2 : Int32).toNatClampNeg (some (u 85)))))))) from rfl)) st_f61
set_option maxRecDepth 100000 in
theorem st_c62 (hP : va_P S.1 vwCl (bk_X10 (cAr S) h0 u) H) : va_at S.1 vwCl (adr (S0 S h0 u) 62, (cO 8 (fsX6 (S0 S h0 u) 62)) (w0.1 62) (w0.2.1 62) (w0.2.2 62)) H := hP 62 _ (show (bk_X10 (cAr S) h0 u)[62]? = some (adr (S0 S h0 u) 62, (cO 8 (fsX6 (S0 S h0 u) 62)) (w0.1 62) (w0.2.1 62) (w0.2.2 62)) from rfl)
set_option maxRecDepth 100000 in
theorem st_c63 (hP : va_P S.1 vwCl (bk_X10 (cAr S) h0 u) H) : va_at S.1 vwCl (adr (S0 S h0 u) 63, (cB (S0 S h0 u) 5 66) (w0.1 63) (w0.2.1 63) (w0.2.2 63)) H := st_B (hP 63 _ (show (bk_X10 (cAr S) h0 u)[63]? = some (adr (S0 S h0 u) 63, .inl (cAr S 3, 5, .inr (.inr (.inr (.inr (va_up (va_up (va_up (va_up (va_up (fun _ => none) (0 : Int32).toNatClampNeg (some (u 65))) (1 : Int32).toNatClampNeg (some (u 67))) (2 : Int32).toNatClampNeg (some (u 69))) (3 : Int32).toNatClampNeg (some (u 71))) (4 : Int32).toNatClampNeg (some (u 73)))))))) from rfl)) st_f63
set_option maxRecDepth 100000 in
theorem st_c64 (hP : va_P S.1 vwCl (bk_X10 (cAr S) h0 u) H) : va_at S.1 vwCl (adr (S0 S h0 u) 64, (cI (S0 S h0 u) 4) (w0.1 64) (w0.2.1 64) (w0.2.2 64)) H := hP 64 _ (show (bk_X10 (cAr S) h0 u)[64]? = some (adr (S0 S h0 u) 64, (cI (S0 S h0 u) 4) (w0.1 64) (w0.2.1 64) (w0.2.2 64)) from rfl)
set_option maxRecDepth 100000 in
theorem st_c65 (hP : va_P S.1 vwCl (bk_X10 (cAr S) h0 u) H) : va_at S.1 vwCl (adr (S0 S h0 u) 65, (cI (S0 S h0 u) 4) (w0.1 65) (w0.2.1 65) (w0.2.2 65)) H := hP 65 _ (show (bk_X10 (cAr S) h0 u)[65]? = some (adr (S0 S h0 u) 65, (cI (S0 S h0 u) 4) (w0.1 65) (w0.2.1 65) (w0.2.2 65)) from rfl)
set_option maxRecDepth 100000 in
theorem st_c66 (hP : va_P S.1 vwCl (bk_X10 (cAr S) h0 u) H) : va_at S.1 vwCl (adr (S0 S h0 u) 66, (cO 3 (fsX1 (S0 S h0 u) 66)) (w0.1 66) (w0.2.1 66) (w0.2.2 66)) H := hP 66 _ (show (bk_X10 (cAr S) h0 u)[66]? = some (adr (S0 S h0 u) 66, (cO 3 (fsX1 (S0 S h0 u) 66)) (w0.1 66) (w0.2.1 66) (w0.2.2 66)) from rfl)
set_option maxRecDepth 100000 in
theorem st_c67 (hP : va_P S.1 vwCl (bk_X10 (cAr S) h0 u) H) : va_at S.1 vwCl (adr (S0 S h0 u) 67, (cI (S0 S h0 u) 8) (w0.1 67) (w0.2.1 67) (w0.2.2 67)) H := hP 67 _ (show (bk_X10 (cAr S) h0 u)[67]? = some (adr (S0 S h0 u) 67, (cI (S0 S h0 u) 8) (w0.1 67) (w0.2.1 67) (w0.2.2 67)) from rfl)
set_option maxRecDepth 100000 in
theorem st_c68 (hP : va_P S.1 vwCl (bk_X10 (cAr S) h0 u) H) : va_at S.1 vwCl (adr (S0 S h0 u) 68, (cO 3 (fsX1 (S0 S h0 u) 68)) (w0.1 68) (w0.2.1 68) (w0.2.2 68)) H := hP 68 _ (show (bk_X10 (cAr S) h0 u)[68]? = some (adr (S0 S h0 u) 68, (cO 3 (fsX1 (S0 S h0 u) 68)) (w0.1 68) (w0.2.1 68) (w0.2.2 68)) from rfl)
set_option maxRecDepth 100000 in
theorem st_c69 (hP : va_P S.1 vwCl (bk_X10 (cAr S) h0 u) H) : va_at S.1 vwCl (adr (S0 S h0 u) 69, (cI (S0 S h0 u) 8) (w0.1 69) (w0.2.1 69) (w0.2.2 69)) H := hP 69 _ (show (bk_X10 (cAr S) h0 u)[69]? = some (adr (S0 S h0 u) 69, (cI (S0 S h0 u) 8) (w0.1 69) (w0.2.1 69) (w0.2.2 69)) from rfl)
set_option maxRecDepth 100000 in
theorem st_c70 (hP : va_P S.1 vwCl (bk_X10 (cAr S) h0 u) H) : va_at S.1 vwCl (adr (S0 S h0 u) 70, (cO 3 (fsX1 (S0 S h0 u) 70)) (w0.1 70) (w0.2.1 70) (w0.2.2 70)) H := hP 70 _ (show (bk_X10 (cAr S) h0 u)[70]? = some (adr (S0 S h0 u) 70, (cO 3 (fsX1 (S0 S h0 u) 70)) (w0.1 70) (w0.2.1 70) (w0.2.2 70)) from rfl)
set_option maxRecDepth 100000 in
theorem st_c71 (hP : va_P S.1 vwCl (bk_X10 (cAr S) h0 u) H) : va_at S.1 vwCl (adr (S0 S h0 u) 71, (cI (S0 S h0 u) 8) (w0.1 71) (w0.2.1 71) (w0.2.2 71)) H := hP 71 _ (show (bk_X10 (cAr S) h0 u)[71]? = some (adr (S0 S h0 u) 71, (cI (S0 S h0 u) 8) (w0.1 71) (w0.2.1 71) (w0.2.2 71)) from rfl)
set_option maxRecDepth 100000 in
theorem st_c72 (hP : va_P S.1 vwCl (bk_X10 (cAr S) h0 u) H) : va_at S.1 vwCl (adr (S0 S h0 u) 72, (cO 3 (fsX1 (S0 S h0 u) 72)) (w0.1 72) (w0.2.1 72) (w0.2.2 72)) H := hP 72 _ (show (bk_X10 (cAr S) h0 u)[72]? = some (adr (S0 S h0 u) 72, (cO 3 (fsX1 (S0 S h0 u) 72)) (w0.1 72) (w0.2.1 72) (w0.2.2 72)) from rfl)
set_option maxRecDepth 100000 in
theorem st_c73 (hP : va_P S.1 vwCl (bk_X10 (cAr S) h0 u) H) : va_at S.1 vwCl (adr (S0 S h0 u) 73, (cI (S0 S h0 u) 8) (w0.1 73) (w0.2.1 73) (w0.2.2 73)) H := hP 73 _ (show (bk_X10 (cAr S) h0 u)[73]? = some (adr (S0 S h0 u) 73, (cI (S0 S h0 u) 8) (w0.1 73) (w0.2.1 73) (w0.2.2 73)) from rfl)
set_option maxRecDepth 100000 in
theorem st_c74 (hP : va_P S.1 vwCl (bk_X10 (cAr S) h0 u) H) : va_at S.1 vwCl (adr (S0 S h0 u) 74, (cO 3 (fsX1 (S0 S h0 u) 74)) (w0.1 74) (w0.2.1 74) (w0.2.2 74)) H := hP 74 _ (show (bk_X10 (cAr S) h0 u)[74]? = some (adr (S0 S h0 u) 74, (cO 3 (fsX1 (S0 S h0 u) 74)) (w0.1 74) (w0.2.1 74) (w0.2.2 74)) from rfl)
set_option maxRecDepth 100000 in
theorem st_c75 (hP : va_P S.1 vwCl (bk_X10 (cAr S) h0 u) H) : va_at S.1 vwCl (adr (S0 S h0 u) 75, (cI (S0 S h0 u) 8) (w0.1 75) (w0.2.1 75) (w0.2.2 75)) H := hP 75 _ (show (bk_X10 (cAr S) h0 u)[75]? = some (adr (S0 S h0 u) 75, (cI (S0 S h0 u) 8) (w0.1 75) (w0.2.1 75) (w0.2.2 75)) from rfl)
set_option maxRecDepth 100000 in
theorem st_c76 (hP : va_P S.1 vwCl (bk_X10 (cAr S) h0 u) H) : va_at S.1 vwCl (adr (S0 S h0 u) 76, (cO 5 (fsX3 (S0 S h0 u) 76)) (w0.1 76) (w0.2.1 76) (w0.2.2 76)) H := hP 76 _ (show (bk_X10 (cAr S) h0 u)[76]? = some (adr (S0 S h0 u) 76, (cO 5 (fsX3 (S0 S h0 u) 76)) (w0.1 76) (w0.2.1 76) (w0.2.2 76)) from rfl)
set_option maxRecDepth 100000 in
theorem st_c77 (hP : va_P S.1 vwCl (bk_X10 (cAr S) h0 u) H) : va_at S.1 vwCl (adr (S0 S h0 u) 77, (cI (S0 S h0 u) 12) (w0.1 77) (w0.2.1 77) (w0.2.2 77)) H := hP 77 _ (show (bk_X10 (cAr S) h0 u)[77]? = some (adr (S0 S h0 u) 77, (cI (S0 S h0 u) 12) (w0.1 77) (w0.2.1 77) (w0.2.2 77)) from rfl)
set_option maxRecDepth 100000 in
theorem st_c78 (hP : va_P S.1 vwCl (bk_X10 (cAr S) h0 u) H) : va_at S.1 vwCl (adr (S0 S h0 u) 78, (cI (S0 S h0 u) 12) (w0.1 78) (w0.2.1 78) (w0.2.2 78)) H := hP 78 _ (show (bk_X10 (cAr S) h0 u)[78]? = some (adr (S0 S h0 u) 78, (cI (S0 S h0 u) 12) (w0.1 78) (w0.2.1 78) (w0.2.2 78)) from rfl)
set_option maxRecDepth 100000 in
theorem st_c79 (hP : va_P S.1 vwCl (bk_X10 (cAr S) h0 u) H) : va_at S.1 vwCl (adr (S0 S h0 u) 79, (cI (S0 S h0 u) 12) (w0.1 79) (w0.2.1 79) (w0.2.2 79)) H := hP 79 _ (show (bk_X10 (cAr S) h0 u)[79]? = some (adr (S0 S h0 u) 79, (cI (S0 S h0 u) 12) (w0.1 79) (w0.2.1 79) (w0.2.2 79)) from rfl)
set_option maxRecDepth 100000 in
theorem st_c80 (hP : va_P S.1 vwCl (bk_X10 (cAr S) h0 u) H) : va_at S.1 vwCl (adr (S0 S h0 u) 80, (cI (S0 S h0 u) 48) (w0.1 80) (w0.2.1 80) (w0.2.2 80)) H := hP 80 _ (show (bk_X10 (cAr S) h0 u)[80]? = some (adr (S0 S h0 u) 80, (cI (S0 S h0 u) 48) (w0.1 80) (w0.2.1 80) (w0.2.2 80)) from rfl)
set_option maxRecDepth 100000 in
theorem st_c81 (hP : va_P S.1 vwCl (bk_X10 (cAr S) h0 u) H) : va_at S.1 vwCl (adr (S0 S h0 u) 81, (cI (S0 S h0 u) 48) (w0.1 81) (w0.2.1 81) (w0.2.2 81)) H := hP 81 _ (show (bk_X10 (cAr S) h0 u)[81]? = some (adr (S0 S h0 u) 81, (cI (S0 S h0 u) 48) (w0.1 81) (w0.2.1 81) (w0.2.2 81)) from rfl)
set_option maxRecDepth 100000 in
theorem st_c82 (hP : va_P S.1 vwCl (bk_X10 (cAr S) h0 u) H) : va_at S.1 vwCl (adr (S0 S h0 u) 82, (cO 3 (fsX1 (S0 S h0 u) 82)) (w0.1 82) (w0.2.1 82) (w0.2.2 82)) H := hP 82 _ (show (bk_X10 (cAr S) h0 u)[82]? = some (adr (S0 S h0 u) 82, (cO 3 (fsX1 (S0 S h0 u) 82)) (w0.1 82) (w0.2.1 82) (w0.2.2 82)) from rfl)
set_option maxRecDepth 100000 in
theorem st_c83 (hP : va_P S.1 vwCl (bk_X10 (cAr S) h0 u) H) : va_at S.1 vwCl (adr (S0 S h0 u) 83, (cI (S0 S h0 u) 8) (w0.1 83) (w0.2.1 83) (w0.2.2 83)) H := hP 83 _ (show (bk_X10 (cAr S) h0 u)[83]? = some (adr (S0 S h0 u) 83, (cI (S0 S h0 u) 8) (w0.1 83) (w0.2.1 83) (w0.2.2 83)) from rfl)
set_option maxRecDepth 100000 in
theorem st_c84 (hP : va_P S.1 vwCl (bk_X10 (cAr S) h0 u) H) : va_at S.1 vwCl (adr (S0 S h0 u) 84, (cO 3 (fsX1 (S0 S h0 u) 84)) (w0.1 84) (w0.2.1 84) (w0.2.2 84)) H := hP 84 _ (show (bk_X10 (cAr S) h0 u)[84]? = some (adr (S0 S h0 u) 84, (cO 3 (fsX1 (S0 S h0 u) 84)) (w0.1 84) (w0.2.1 84) (w0.2.2 84)) from rfl)
set_option maxRecDepth 100000 in
theorem st_c85 (hP : va_P S.1 vwCl (bk_X10 (cAr S) h0 u) H) : va_at S.1 vwCl (adr (S0 S h0 u) 85, (cI (S0 S h0 u) 8) (w0.1 85) (w0.2.1 85) (w0.2.2 85)) H := hP 85 _ (show (bk_X10 (cAr S) h0 u)[85]? = some (adr (S0 S h0 u) 85, (cI (S0 S h0 u) 8) (w0.1 85) (w0.2.1 85) (w0.2.2 85)) from rfl)
set_option maxRecDepth 100000 in
theorem st_c86 (hP : va_P S.1 vwCl (bk_X10 (cAr S) h0 u) H) : va_at S.1 vwCl (adr (S0 S h0 u) 86, (cO 3 (fsX1 (S0 S h0 u) 86)) (w0.1 86) (w0.2.1 86) (w0.2.2 86)) H := hP 86 _ (show (bk_X10 (cAr S) h0 u)[86]? = some (adr (S0 S h0 u) 86, (cO 3 (fsX1 (S0 S h0 u) 86)) (w0.1 86) (w0.2.1 86) (w0.2.2 86)) from rfl)
set_option maxRecDepth 100000 in
theorem st_c87 (hP : va_P S.1 vwCl (bk_X10 (cAr S) h0 u) H) : va_at S.1 vwCl (adr (S0 S h0 u) 87, (cI (S0 S h0 u) 8) (w0.1 87) (w0.2.1 87) (w0.2.2 87)) H := hP 87 _ (show (bk_X10 (cAr S) h0 u)[87]? = some (adr (S0 S h0 u) 87, (cI (S0 S h0 u) 8) (w0.1 87) (w0.2.1 87) (w0.2.2 87)) from rfl)
theorem st_p0 (hP : va_P S.1 vwCl (bk_X10 (cAr S) h0 u) H) (j : Nat) (hj : j < 11) : ∀ q : Nat × va_E, (wsOf (S0 S h0 u) w0)[0 + j]? = some q → va_at S.1 vwCl q H := by
  match j, hj with
  | 0, _ => exact fun q hq => st_at (S := S0 S h0 u) (k := 0) tb_0 (st_c0 hP) hq
  | 1, _ => exact fun q hq => st_at (S := S0 S h0 u) (k := 1) tb_1 (st_c1 hP) hq
  | 2, _ => exact fun q hq => st_at (S := S0 S h0 u) (k := 2) tb_2 (st_c2 hP) hq
  | 3, _ => exact fun q hq => st_at (S := S0 S h0 u) (k := 3) tb_3 (st_c3 hP) hq
  | 4, _ => exact fun q hq => st_at (S := S0 S h0 u) (k := 4) tb_4 (st_c4 hP) hq
  | 5, _ => exact fun q hq => st_at (S := S0 S h0 u) (k := 5) tb_5 (st_c5 hP) hq
  | 6, _ => exact fun q hq => st_at (S := S0 S h0 u) (k := 6) tb_6 (st_c6 hP) hq
  | 7, _ => exact fun q hq => st_at (S := S0 S h0 u) (k := 7) tb_7 (st_c7 hP) hq
  | 8, _ => exact fun q hq => st_at (S := S0 S h0 u) (k := 8) tb_8 (st_c8 hP) hq
  | 9, _ => exact fun q hq => st_at (S := S0 S h0 u) (k := 9) tb_9 (st_c9 hP) hq
  | 10, _ => exact fun q hq => st_at (S := S0 S h0 u) (k := 10) tb_10 (st_c10 hP) hq
  | k + 11, h => exact absurd h (by omega)
theorem st_p1 (hP : va_P S.1 vwCl (bk_X10 (cAr S) h0 u) H) (j : Nat) (hj : j < 11) : ∀ q : Nat × va_E, (wsOf (S0 S h0 u) w0)[11 + j]? = some q → va_at S.1 vwCl q H := by
  match j, hj with
  | 0, _ => exact fun q hq => st_at (S := S0 S h0 u) (k := 11) tb_11 (st_c11 hP) hq
  | 1, _ => exact fun q hq => st_at (S := S0 S h0 u) (k := 12) tb_12 (st_c12 hP) hq
  | 2, _ => exact fun q hq => st_at (S := S0 S h0 u) (k := 13) tb_13 (st_c13 hP) hq
  | 3, _ => exact fun q hq => st_at (S := S0 S h0 u) (k := 14) tb_14 (st_c14 hP) hq
  | 4, _ => exact fun q hq => st_at (S := S0 S h0 u) (k := 15) tb_15 (st_c15 hP) hq
  | 5, _ => exact fun q hq => st_at (S := S0 S h0 u) (k := 16) tb_16 (st_c16 hP) hq
  | 6, _ => exact fun q hq => st_at (S := S0 S h0 u) (k := 17) tb_17 (st_c17 hP) hq
  | 7, _ => exact fun q hq => st_at (S := S0 S h0 u) (k := 18) tb_18 (st_c18 hP) hq
  | 8, _ => exact fun q hq => st_at (S := S0 S h0 u) (k := 19) tb_19 (st_c19 hP) hq
  | 9, _ => exact fun q hq => st_at (S := S0 S h0 u) (k := 20) tb_20 (st_c20 hP) hq
  | 10, _ => exact fun q hq => st_at (S := S0 S h0 u) (k := 21) tb_21 (st_c21 hP) hq
  | k + 11, h => exact absurd h (by omega)
theorem st_p2 (hP : va_P S.1 vwCl (bk_X10 (cAr S) h0 u) H) (j : Nat) (hj : j < 11) : ∀ q : Nat × va_E, (wsOf (S0 S h0 u) w0)[22 + j]? = some q → va_at S.1 vwCl q H := by
  match j, hj with
  | 0, _ => exact fun q hq => st_at (S := S0 S h0 u) (k := 22) tb_22 (st_c22 hP) hq
  | 1, _ => exact fun q hq => st_at (S := S0 S h0 u) (k := 23) tb_23 (st_c23 hP) hq
  | 2, _ => exact fun q hq => st_at (S := S0 S h0 u) (k := 24) tb_24 (st_c24 hP) hq
  | 3, _ => exact fun q hq => st_at (S := S0 S h0 u) (k := 25) tb_25 (st_c25 hP) hq
  | 4, _ => exact fun q hq => st_at (S := S0 S h0 u) (k := 26) tb_26 (st_c26 hP) hq
  | 5, _ => exact fun q hq => st_at (S := S0 S h0 u) (k := 27) tb_27 (st_c27 hP) hq
  | 6, _ => exact fun q hq => st_at (S := S0 S h0 u) (k := 28) tb_28 (st_c28 hP) hq
  | 7, _ => exact fun q hq => st_at (S := S0 S h0 u) (k := 29) tb_29 (st_c29 hP) hq
  | 8, _ => exact fun q hq => st_at (S := S0 S h0 u) (k := 30) tb_30 (st_c30 hP) hq
  | 9, _ => exact fun q hq => st_at (S := S0 S h0 u) (k := 31) tb_31 (st_c31 hP) hq
  | 10, _ => exact fun q hq => st_at (S := S0 S h0 u) (k := 32) tb_32 (st_c32 hP) hq
  | k + 11, h => exact absurd h (by omega)
theorem st_p3 (hP : va_P S.1 vwCl (bk_X10 (cAr S) h0 u) H) (j : Nat) (hj : j < 11) : ∀ q : Nat × va_E, (wsOf (S0 S h0 u) w0)[33 + j]? = some q → va_at S.1 vwCl q H := by
  match j, hj with
  | 0, _ => exact fun q hq => st_at (S := S0 S h0 u) (k := 33) tb_33 (st_c33 hP) hq
  | 1, _ => exact fun q hq => st_at (S := S0 S h0 u) (k := 34) tb_34 (st_c34 hP) hq
  | 2, _ => exact fun q hq => st_at (S := S0 S h0 u) (k := 35) tb_35 (st_c35 hP) hq
  | 3, _ => exact fun q hq => st_at (S := S0 S h0 u) (k := 36) tb_36 (st_c36 hP) hq
  | 4, _ => exact fun q hq => st_at (S := S0 S h0 u) (k := 37) tb_37 (st_c37 hP) hq
  | 5, _ => exact fun q hq => st_at (S := S0 S h0 u) (k := 38) tb_38 (st_c38 hP) hq
  | 6, _ => exact fun q hq => st_at (S := S0 S h0 u) (k := 39) tb_39 (st_c39 hP) hq
  | 7, _ => exact fun q hq => st_at (S := S0 S h0 u) (k := 40) tb_40 (st_c40 hP) hq
  | 8, _ => exact fun q hq => st_at (S := S0 S h0 u) (k := 41) tb_41 (st_c41 hP) hq
  | 9, _ => exact fun q hq => st_at (S := S0 S h0 u) (k := 42) tb_42 (st_c42 hP) hq
  | 10, _ => exact fun q hq => st_at (S := S0 S h0 u) (k := 43) tb_43 (st_c43 hP) hq
  | k + 11, h => exact absurd h (by omega)
theorem st_p4 (hP : va_P S.1 vwCl (bk_X10 (cAr S) h0 u) H) (j : Nat) (hj : j < 11) : ∀ q : Nat × va_E, (wsOf (S0 S h0 u) w0)[44 + j]? = some q → va_at S.1 vwCl q H := by
  match j, hj with
  | 0, _ => exact fun q hq => st_at (S := S0 S h0 u) (k := 44) tb_44 (st_c44 hP) hq
  | 1, _ => exact fun q hq => st_at (S := S0 S h0 u) (k := 45) tb_45 (st_c45 hP) hq
  | 2, _ => exact fun q hq => st_at (S := S0 S h0 u) (k := 46) tb_46 (st_c46 hP) hq
  | 3, _ => exact fun q hq => st_at (S := S0 S h0 u) (k := 47) tb_47 (st_c47 hP) hq
  | 4, _ => exact fun q hq => st_at (S := S0 S h0 u) (k := 48) tb_48 (st_c48 hP) hq
  | 5, _ => exact fun q hq => st_at (S := S0 S h0 u) (k := 49) tb_49 (st_c49 hP) hq
  | 6, _ => exact fun q hq => st_at (S := S0 S h0 u) (k := 50) tb_50 (st_c50 hP) hq
  | 7, _ => exact fun q hq => st_at (S := S0 S h0 u) (k := 51) tb_51 (st_c51 hP) hq
  | 8, _ => exact fun q hq => st_at (S := S0 S h0 u) (k := 52) tb_52 (st_c52 hP) hq
  | 9, _ => exact fun q hq => st_at (S := S0 S h0 u) (k := 53) tb_53 (st_c53 hP) hq
  | 10, _ => exact fun q hq => st_at (S := S0 S h0 u) (k := 54) tb_54 (st_c54 hP) hq
  | k + 11, h => exact absurd h (by omega)
theorem st_p5 (hP : va_P S.1 vwCl (bk_X10 (cAr S) h0 u) H) (j : Nat) (hj : j < 11) : ∀ q : Nat × va_E, (wsOf (S0 S h0 u) w0)[55 + j]? = some q → va_at S.1 vwCl q H := by
  match j, hj with
  | 0, _ => exact fun q hq => st_at (S := S0 S h0 u) (k := 55) tb_55 (st_c55 hP) hq
  | 1, _ => exact fun q hq => st_at (S := S0 S h0 u) (k := 56) tb_56 (st_c56 hP) hq
  | 2, _ => exact fun q hq => st_at (S := S0 S h0 u) (k := 57) tb_57 (st_c57 hP) hq
  | 3, _ => exact fun q hq => st_at (S := S0 S h0 u) (k := 58) tb_58 (st_c58 hP) hq
  | 4, _ => exact fun q hq => st_at (S := S0 S h0 u) (k := 59) tb_59 (st_c59 hP) hq
  | 5, _ => exact fun q hq => st_at (S := S0 S h0 u) (k := 60) tb_60 (st_c60 hP) hq
  | 6, _ => exact fun q hq => st_at (S := S0 S h0 u) (k := 61) tb_61 (st_c61 hP) hq
  | 7, _ => exact fun q hq => st_at (S := S0 S h0 u) (k := 62) tb_62 (st_c62 hP) hq
  | 8, _ => exact fun q hq => st_at (S := S0 S h0 u) (k := 63) tb_63 (st_c63 hP) hq
  | 9, _ => exact fun q hq => st_at (S := S0 S h0 u) (k := 64) tb_64 (st_c64 hP) hq
  | 10, _ => exact fun q hq => st_at (S := S0 S h0 u) (k := 65) tb_65 (st_c65 hP) hq
  | k + 11, h => exact absurd h (by omega)
theorem st_p6 (hP : va_P S.1 vwCl (bk_X10 (cAr S) h0 u) H) (j : Nat) (hj : j < 11) : ∀ q : Nat × va_E, (wsOf (S0 S h0 u) w0)[66 + j]? = some q → va_at S.1 vwCl q H := by
  match j, hj with
  | 0, _ => exact fun q hq => st_at (S := S0 S h0 u) (k := 66) tb_66 (st_c66 hP) hq
  | 1, _ => exact fun q hq => st_at (S := S0 S h0 u) (k := 67) tb_67 (st_c67 hP) hq
  | 2, _ => exact fun q hq => st_at (S := S0 S h0 u) (k := 68) tb_68 (st_c68 hP) hq
  | 3, _ => exact fun q hq => st_at (S := S0 S h0 u) (k := 69) tb_69 (st_c69 hP) hq
  | 4, _ => exact fun q hq => st_at (S := S0 S h0 u) (k := 70) tb_70 (st_c70 hP) hq
  | 5, _ => exact fun q hq => st_at (S := S0 S h0 u) (k := 71) tb_71 (st_c71 hP) hq
  | 6, _ => exact fun q hq => st_at (S := S0 S h0 u) (k := 72) tb_72 (st_c72 hP) hq
  | 7, _ => exact fun q hq => st_at (S := S0 S h0 u) (k := 73) tb_73 (st_c73 hP) hq
  | 8, _ => exact fun q hq => st_at (S := S0 S h0 u) (k := 74) tb_74 (st_c74 hP) hq
  | 9, _ => exact fun q hq => st_at (S := S0 S h0 u) (k := 75) tb_75 (st_c75 hP) hq
  | 10, _ => exact fun q hq => st_at (S := S0 S h0 u) (k := 76) tb_76 (st_c76 hP) hq
  | k + 11, h => exact absurd h (by omega)
theorem st_p7 (hP : va_P S.1 vwCl (bk_X10 (cAr S) h0 u) H) (j : Nat) (hj : j < 11) : ∀ q : Nat × va_E, (wsOf (S0 S h0 u) w0)[77 + j]? = some q → va_at S.1 vwCl q H := by
  match j, hj with
  | 0, _ => exact fun q hq => st_at (S := S0 S h0 u) (k := 77) tb_77 (st_c77 hP) hq
  | 1, _ => exact fun q hq => st_at (S := S0 S h0 u) (k := 78) tb_78 (st_c78 hP) hq
  | 2, _ => exact fun q hq => st_at (S := S0 S h0 u) (k := 79) tb_79 (st_c79 hP) hq
  | 3, _ => exact fun q hq => st_at (S := S0 S h0 u) (k := 80) tb_80 (st_c80 hP) hq
  | 4, _ => exact fun q hq => st_at (S := S0 S h0 u) (k := 81) tb_81 (st_c81 hP) hq
  | 5, _ => exact fun q hq => st_at (S := S0 S h0 u) (k := 82) tb_82 (st_c82 hP) hq
  | 6, _ => exact fun q hq => st_at (S := S0 S h0 u) (k := 83) tb_83 (st_c83 hP) hq
  | 7, _ => exact fun q hq => st_at (S := S0 S h0 u) (k := 84) tb_84 (st_c84 hP) hq
  | 8, _ => exact fun q hq => st_at (S := S0 S h0 u) (k := 85) tb_85 (st_c85 hP) hq
  | 9, _ => exact fun q hq => st_at (S := S0 S h0 u) (k := 86) tb_86 (st_c86 hP) hq
  | 10, _ => exact fun q hq => st_at (S := S0 S h0 u) (k := 87) tb_87 (st_c87 hP) hq
  | k + 11, h => exact absurd h (by omega)
theorem st_P (hP : va_P S.1 vwCl (bk_X10 (cAr S) h0 u) H) : va_P S.1 vwCl (wsOf (S0 S h0 u) w0) H := by
  intro k q hq
  have hk : k < 88 := by have := (List.getElem?_eq_some_iff.mp hq).1; unfold wsOf at this; rw [List.length_mapIdx] at this; exact this
  by_cases c0 : k < 11
  · obtain ⟨j, rfl⟩ : ∃ j, k = 0 + j := ⟨k - 0, by omega⟩
    exact st_p0 hP j (by omega) q hq
  by_cases c1 : k < 22
  · obtain ⟨j, rfl⟩ : ∃ j, k = 11 + j := ⟨k - 11, by omega⟩
    exact st_p1 hP j (by omega) q hq
  by_cases c2 : k < 33
  · obtain ⟨j, rfl⟩ : ∃ j, k = 22 + j := ⟨k - 22, by omega⟩
    exact st_p2 hP j (by omega) q hq
  by_cases c3 : k < 44
  · obtain ⟨j, rfl⟩ : ∃ j, k = 33 + j := ⟨k - 33, by omega⟩
    exact st_p3 hP j (by omega) q hq
  by_cases c4 : k < 55
  · obtain ⟨j, rfl⟩ : ∃ j, k = 44 + j := ⟨k - 44, by omega⟩
    exact st_p4 hP j (by omega) q hq
  by_cases c5 : k < 66
  · obtain ⟨j, rfl⟩ : ∃ j, k = 55 + j := ⟨k - 55, by omega⟩
    exact st_p5 hP j (by omega) q hq
  by_cases c6 : k < 77
  · obtain ⟨j, rfl⟩ : ∃ j, k = 66 + j := ⟨k - 66, by omega⟩
    exact st_p6 hP j (by omega) q hq
  by_cases c7 : k < 88
  · obtain ⟨j, rfl⟩ : ∃ j, k = 77 + j := ⟨k - 77, by omega⟩
    exact st_p7 hP j (by omega) q hq
  exact absurd hk (by omega)
set_option maxRecDepth 100000 in
theorem st_ad {ca : Nat → ClassId} : (bk_X10 ca h0 u).map Prod.fst = adL h0 u := rfl
theorem st_fst : (bk_X10 (cAr S) h0 u).map Prod.fst = (wsOf (S0 S h0 u) w0).map Prod.fst := by
  rw [st_ad]
  have hl : (adL h0 u).length = 88 := rfl
  apply List.ext_getElem?
  intro i
  by_cases hi : i < 88
  · obtain ⟨e, he⟩ := ws_at (S0 S h0 u) w0 hi
    rw [List.getElem?_map, he]
    show (adL h0 u)[i]? = some ((adL h0 u).getD i 0)
    rw [List.getD_eq_getElem?_getD, List.getElem?_eq_getElem (by omega)]
    rfl
  · rw [List.getElem?_eq_none (by omega), List.getElem?_eq_none (by
      rw [List.length_map]
      unfold wsOf
      rw [List.length_mapIdx, tab_len]
      show 88 ≤ i
      omega)]
end START
theorem w0_z {a : Nat} (h : i0L.getD a i0F = i0F) (k : Nat) : gI w0 a k = 0 := by
  show i0L.getD a i0F k = 0
  rw [h]
  rfl
theorem w0_okL : okL w0 12 := ⟨0, w0_z rfl 1, ⟨by decide, fun k hk => absurd hk (by omega), fun k hk => absurd hk (by omega), fun k hk => absurd hk (by omega)⟩, fun k hk => absurd hk (by omega)⟩
theorem w0_rol {a p k : Nat} (h : i0L.getD p i0F = i0F) : rol w0 a p k = 0 := by
  unfold rol
  rw [w0_z h k]
  split
  · rfl
  · split <;> rfl
theorem w0_tw : okTw (tC w0 5) 0 0 0 := by
  have e0 : ∀ k, tC w0 5 0 k = 0 := fun k => w0_rol (a := 6) (p := 7) rfl
  have e1 : ∀ k, tC w0 5 1 k = 0 := fun k => w0_rol (a := 6) (p := 8) rfl
  have e2 : ∀ k, tC w0 5 2 k = 0 := fun k => w0_rol (a := 9) (p := 10) rfl
  have e3 : ∀ k, tC w0 5 3 k = 0 := fun k => w0_rol (a := 9) (p := 11) rfl
  exact ⟨by decide, by decide, w0_z rfl 2, w0_z rfl 2, w0_z (a := 12) rfl 1, ⟨by decide, fun k hk => absurd hk (by omega), fun k hk => absurd hk (by omega), fun k hk => absurd hk (by omega)⟩, fun k _ => ⟨e0 k, e1 k⟩, fun k _ => ⟨e2 k, e3 k⟩, fun k => ⟨0, by decide, e1 k⟩, fun k => ⟨0, by decide, e3 k⟩, ⟨2, by decide, rfl⟩⟩
theorem w0_q : bC w0 23 = q00 := by
  funext k
  unfold bC q00
  match k with
  | 0 => rfl
  | 1 => rfl
  | 2 => rfl
  | 3 => rfl
  | 4 => rfl
  | 5 => rfl
  | 6 => rfl
  | 7 => rfl
  | 8 => rfl
  | 9 => rfl
  | 10 => rfl
  | 11 => rfl
  | 12 => rfl
  | 13 => rfl
  | 14 => rfl
  | 15 => rfl
  | k + 16 => rw [if_neg (by omega), if_neg (by omega), if_neg (by omega)]
theorem w0_bl : BlI q00 0 0 0 := by
  refine ⟨⟨fun k _ hk => ⟨by unfold q00; rw [if_neg (by omega)], (by decide +kernel : ∀ k, k < 8 → bt (q00 8) k = 0) k hk⟩, by decide⟩, ⟨0, by decide, by decide, rfl⟩, by decide, ⟨0, by decide, rfl⟩, ⟨0, Nat.le_refl _, rfl⟩⟩
theorem w0_CQ : CQ w0 (tC w0 5) q00 0 0 [] (fun _ => 0) 0 [] := by
  refine ⟨0, 0, 0, fun _ _ => 0, fun _ => none, ⟨⟨.inl rfl, by decide, w0_okL⟩, ⟨by decide, by decide⟩, rfl, w0_q, w0_z rfl 2, w0_z rfl 2, ⟨0, by decide, w0_z rfl 1, by decide, w0_z rfl 2, fun i hi => absurd hi (Nat.not_lt_zero i)⟩, ⟨w0_z rfl 1, by decide, fun k hk => absurd hk (Nat.not_lt_zero k)⟩, ⟨w0_z rfl 1, fun k hk => absurd hk (Nat.not_lt_zero k)⟩, ⟨w0_z rfl 3, by decide, fun k hk => absurd hk (Nat.not_lt_zero k)⟩, ⟨0, by decide, w0_z rfl 10, fun i hi => ⟨⟨fun _ => rfl, fun _ => (by decide +kernel : ∀ i, i < 3 → bt (nI 0) i = 0) i hi⟩, fun b h => by cases h⟩⟩⟩, ⟨w0_tw, w0_bl, fun x hx => absurd hx List.not_mem_nil, fun i x h => (by cases h), fun i hi => absurd hi (Nat.not_lt_zero i), Nat.zero_le _, fun k hk => absurd hk (Nat.not_lt_zero k)⟩⟩
theorem w0_T : tC w0 5 4 2 = 5 ∧ tC w0 5 4 3 = 0 ∧ tC w0 5 4 4 = 2 := ⟨by decide +kernel, by decide +kernel, by decide +kernel⟩
-- the constructor's call
section YZ
variable {X : Cx} {S : Sx} {K : Kx} {A : Nat → Prop} {E : Ex} {kc kn : Nat} {bl rst : Bk} {cc : ByteArray} {own : String} {nL : Nat} {rm : Room} {pc : Nat} {lv : List (Nat × Value)} {st rest : List Value}
theorem va_midZ {A0 : Nat → Prop} {G : va_G} {w1 w2 ws2 : va_W} {H H1 : Heap} (hP : va_P G vwCl (w1 ++ ws2) H) (hD : va_D A0 (w1 ++ ws2)) (hk : ∀ x : Nat, x < H.size → ¬ va_A w1 H.size x → H1[x]? = H[x]?) (hF : ∀ x, va_A w1 H.size x → A0 x) (hP1 : va_P G vwCl w2 H1) (hD1 : va_D (va_A w1 H.size) w2) : va_P G vwCl (w2 ++ ws2) H1 ∧ va_D A0 (w2 ++ ws2) := va_mid2 hP hD hk hF hP1 hD1
theorem Y_initZ {index h0 : Nat} (hX : Yok X S K A cc own nL rm) (hk : MIk own index yX10_init cX10_init 2 none) (hbl : bl = [(h0, .inr (12, [.null, .null, .null, .null, .null, .null, .null, .null, .null, .null, .int 0, .null, .null]))] :: rst) (hR : rmI_X10.frames + 1 ≤ rm.frames ∧ 8 + (2 + 11) + rmI_X10.locals ≤ rm.locals) (hst : st = .ref h0 :: rest) (hW : (rest.map fun v => v.category).sum ≤ 8) (d : decode cc pc = .ok (.invokespecial index, 3)) (hf : kc + 87 ≤ rm.cells ∧ kn + 1033 ≤ rm.slots) (kk : ∀ u, Y X S K A (kc + 87) (kn + 1033) (wsOf (S0 S h0 u) w0 :: rst) (pc + 3) lv rest) : Y X S K A kc kn bl pc lv st := by
  subst hst
  subst hbl
  obtain ⟨p, l, e, R, s, m, args, below, meth, c, Q⟩ := X
  intro H locs ls hP hD hS hl
  rw [List.flatten_cons] at hP hD
  have hF := vaA_in hD hS hX.2.2.2.2.2.2.2.1
  obtain ⟨h1, h2, h3, rfl, h5, h6, h7, h8, h9⟩ := hX
  obtain ⟨k1, k2, k3, k4⟩ := hk
  have hy : yX10_init.name = "<init>" ∧ yX10_init.cls ≠ "java/lang/invoke/MethodHandle" ∧ yX10_init.cls ≠ "java/lang/invoke/VarHandle" ∧ (parseMethodDescriptor yX10_init.desc).map (fun d => d.parameters.length) = some 0 := ⟨rfl, by decide, by decide, by decide +kernel⟩
  have hPc : va_P S.1 vwCl [(h0, .inr (12, [.null, .null, .null, .null, .null, .null, .null, .null, .null, .null, .int 0, .null, .null]))] H := vaP_iff.mpr fun x hx => vaP_iff.mp hP x (List.mem_append_left _ hx)
  refine va_callv (va_runI (As := []) (rest := rest) ⟨h1, h2, h3, h5, h6⟩ (c_X10_init S.1 (cAr S) h0 H.size l) (cwI 0 h6 (wall_to k4) rfl rfl rfl (h6 _ k3) (h6 _ k1) (h6 _ k2) hy.1 hy.2 hR) ⟨PZ.blind, fun U hU hW => ⟨rfl, by rw [hU], by rw [hU]; exact hPc, (va_K.moved hW.alike h7).sub [0, 1, 2, 3] rfl, h9.1.warm hW⟩⟩ rfl rfl (hl.1.trans h3) rfl (lv_room hW) d hf) hS (fun q _ h => hF q h) hF (fun u t H1 locs1 ht hvm hw hB hz hk1 hS1 => ?_)
  obtain ⟨hP1, hD1⟩ := hB
  rw [ht] at hP1
  obtain ⟨hP2, hD2⟩ := va_midZ hP hD hk1 hF hP1 hD1
  refine kk u H1 locs1 ls ?_ ?_ hS1 hl
  · rw [List.flatten_cons]
    refine vaP_iff.mpr fun x hx => ?_
    rcases List.mem_append.mp hx with h | h
    · exact vaP_iff.mp (st_P hP1) x h
    · exact vaP_iff.mp hP2 x (List.mem_append_right _ h)
  · rw [List.flatten_cons]
    exact vaD_fst st_fst hD2
end YZ
