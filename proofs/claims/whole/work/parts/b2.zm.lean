-- ===== the world at the start =====
def i0F : Nat → Int32 := fun _ => 0
def tiF : Nat → Int32 := fun k => if k = 3 then 5 else if k = 5 then 2 else 0
def beF : Nat → Int32 := fun k => if k = 2 then 50 else 0
def i94F : Nat → Int32 := upd (upd (upd (fun _ => 0) (0 : Int32).toNatClampNeg 5) (1 : Int32).toNatClampNeg 0) (2 : Int32).toNatClampNeg 2
def i95F : Nat → Int32 := upd (upd (upd (upd (upd (upd (upd (upd (upd (upd (upd (upd (upd (upd (upd (upd (fun _ => 0) (0 : Int32).toNatClampNeg 0) (1 : Int32).toNatClampNeg 0) (2 : Int32).toNatClampNeg 0) (3 : Int32).toNatClampNeg 0) (4 : Int32).toNatClampNeg 0) (5 : Int32).toNatClampNeg 0) (6 : Int32).toNatClampNeg 0) (7 : Int32).toNatClampNeg 0) (8 : Int32).toNatClampNeg 0) (9 : Int32).toNatClampNeg 50) (10 : Int32).toNatClampNeg 0) (11 : Int32).toNatClampNeg 0) (12 : Int32).toNatClampNeg 0) (13 : Int32).toNatClampNeg 0) (14 : Int32).toNatClampNeg 0) (15 : Int32).toNatClampNeg 0
def i0L : List (Nat → Int32) := [i0F, i0F, i0F, i0F, i0F, tiF, i0F, i0F, i0F, i0F, i0F, i0F, i0F, i0F, i0F, i0F, i0F, tiF, i0F, i0F, i0F, i0F, i0F, beF, i0F, beF, i0F, beF, i0F, i0F, i0F, beF, i0F, beF, i0F, beF, i0F, beF, i0F, beF, i0F, beF, i0F, beF, i0F, beF, i0F, beF, i0F, beF, i0F, beF, i0F, beF, i0F, beF, i0F, beF, i0F, beF, i0F, i0F, i0F, i0F, i0F, i0F, beF, i0F, beF, i0F, beF, i0F, beF, i0F, beF, i0F, i0F, i0F, i0F, i0F, i0F, i0F, beF, i0F, beF, i0F, beF, i0F, i0F, i0F, i0F, i0F, i0F, i0F, i94F, i95F, i0F, i0F, i0F, i0F, i0F, i0F, i0F, i0F, i0F, i0F, i0F, i0F, i0F, i0F, i0F, i0F, i0F, i0F, i0F, i0F, i0F, i0F, i0F, i0F]
def r4F : Nat → Nat := fun k => if k = 4 then 18 else 0
def r2F : Nat → Nat := fun k => if k = 2 then 12 else 0
def r0F : Nat → Nat := fun _ => 0
def w0 : Wd := (fun a => i0L.getD a i0F, fun _ _ => 0, fun a => if a = 0 then r4F else if a = 5 then r2F else if a = 17 then r2F else r0F)
def adL (h0 : Nat) (u : Nat → Nat) (h1 : Nat) (v : Nat → Nat) (h2 : Nat) : List Nat := [h0, u 0, u 1, u 2, u 3, u 4, u 5, u 6, u 7, u 8, u 9, u 10, u 11, u 12, u 13, u 14, u 15, u 16, u 17, u 18, u 19, u 20, u 21, u 22, u 23, u 24, u 25, u 26, u 27, u 28, u 29, u 30, u 31, u 32, u 33, u 34, u 35, u 36, u 37, u 38, u 39, u 40, u 41, u 42, u 43, u 44, u 45, u 46, u 47, u 48, u 49, u 50, u 51, u 52, u 53, u 54, u 55, u 56, u 57, u 58, u 59, u 60, u 61, u 62, u 63, u 64, u 65, u 66, u 67, u 68, u 69, u 70, u 71, u 72, u 73, u 74, u 75, u 76, u 77, u 78, u 79, u 80, u 81, u 82, u 83, u 84, u 85, u 86, h1, v 0, v 1, v 2, v 3, v 4, v 5, v 6, v 7, v 8, v 9, v 10, v 11, v 12, v 13, v 14, v 15, v 16, v 17, v 18, v 19, v 20, v 21, v 22, v 23, v 24, v 25, v 26, v 27, v 28, v 29, h2]
def stL (ca : Nat → ClassId) (h0 : Nat) (u : Nat → Nat) (h1 : Nat) (v : Nat → Nat) (h2 : Nat) : va_W := bk_X10 ca h0 u ++ (bk_X11 ca h1 v ++ [(h2, .inl (ca 1, 1, .inr (.inl (fun _ => 0))))])
def S0 (G : va_G) (ca : Nat → ClassId) (kK kV : Nat → Nat) (fm : Option Nat) (h0 : Nat) (u : Nat → Nat) (h1 : Nat) (v : Nat → Nat) (h2 : Nat) : Sx := (G, fun i => (adL h0 u h1 v h2).getD i 0, ca, kK, kV, fm)
theorem cl_0 : (0 : Int32).toNatClampNeg = 0 := by decide
theorem cl_1 : (1 : Int32).toNatClampNeg = 1 := by decide
theorem cl_2 : (2 : Int32).toNatClampNeg = 2 := by decide
theorem cl_3 : (3 : Int32).toNatClampNeg = 3 := by decide
theorem cl_4 : (4 : Int32).toNatClampNeg = 4 := by decide
theorem cl_5 : (5 : Int32).toNatClampNeg = 5 := by decide
theorem cl_6 : (6 : Int32).toNatClampNeg = 6 := by decide
theorem cl_7 : (7 : Int32).toNatClampNeg = 7 := by decide
theorem cl_8 : (8 : Int32).toNatClampNeg = 8 := by decide
theorem cl_9 : (9 : Int32).toNatClampNeg = 9 := by decide
theorem cl_10 : (10 : Int32).toNatClampNeg = 10 := by decide
theorem cl_11 : (11 : Int32).toNatClampNeg = 11 := by decide
theorem cl_12 : (12 : Int32).toNatClampNeg = 12 := by decide
theorem cl_13 : (13 : Int32).toNatClampNeg = 13 := by decide
theorem cl_14 : (14 : Int32).toNatClampNeg = 14 := by decide
theorem cl_15 : (15 : Int32).toNatClampNeg = 15 := by decide
theorem arrV_eq {cA : ClassId} {n : Nat} {f g : Nat → Value} (h : ∀ j, j < n → f j = g j) : arrV cA n f = arrV cA n g := by
  unfold arrV
  congr 1
  exact congrArg Array.ofFn (funext fun j => h j j.isLt)
section START
variable {G : va_G} {ca : Nat → ClassId} {kK kV : Nat → Nat} {fm : Option Nat} {h0 : Nat} {u : Nat → Nat} {h1 : Nat} {v : Nat → Nat} {h2 : Nat} {H : Heap}
theorem st_B {q n : Nat} {cA : ClassId} {f g : Nat → Option Nat} (h : va_at G vwCl (q, .inl (cA, n, .inr (.inr (.inr (.inr f))))) H) (e : ∀ j, j < n → f j = g j) : va_at G vwCl (q, .inl (cA, n, .inr (.inr (.inr (.inr g))))) H := by
  have h' : H[q]? = some (arrV cA n (fun j => va_rf (f j))) := h
  show H[q]? = some (arrV cA n (fun j => va_rf (g j)))
  rw [h', arrV_eq (g := fun j => va_rf (g j)) (fun j hj => by rw [e j hj])]
set_option maxRecDepth 100000 in
theorem st_f30 (j : Nat) (hj : j < 15) : (va_up (va_up (va_up (va_up (va_up (va_up (va_up (va_up (va_up (va_up (va_up (va_up (va_up (va_up (va_up (fun _ => none) (0 : Int32).toNatClampNeg (some (u 30))) (1 : Int32).toNatClampNeg (some (u 32))) (2 : Int32).toNatClampNeg (some (u 34))) (3 : Int32).toNatClampNeg (some (u 36))) (4 : Int32).toNatClampNeg (some (u 38))) (5 : Int32).toNatClampNeg (some (u 40))) (6 : Int32).toNatClampNeg (some (u 42))) (7 : Int32).toNatClampNeg (some (u 44))) (8 : Int32).toNatClampNeg (some (u 46))) (9 : Int32).toNatClampNeg (some (u 48))) (10 : Int32).toNatClampNeg (some (u 50))) (11 : Int32).toNatClampNeg (some (u 52))) (12 : Int32).toNatClampNeg (some (u 54))) (13 : Int32).toNatClampNeg (some (u 56))) (14 : Int32).toNatClampNeg (some (u 58))) j = some ((adL h0 u h1 v h2).getD (31 + 2 * j) 0) := by
  simp only [cl_0, cl_1, cl_2, cl_3, cl_4, cl_5, cl_6, cl_7, cl_8, cl_9, cl_10, cl_11, cl_12, cl_13, cl_14]
  match j, hj with
  | 0, _ => rfl
  | 1, _ => rfl
  | 2, _ => rfl
  | 3, _ => rfl
  | 4, _ => rfl
  | 5, _ => rfl
  | 6, _ => rfl
  | 7, _ => rfl
  | 8, _ => rfl
  | 9, _ => rfl
  | 10, _ => rfl
  | 11, _ => rfl
  | 12, _ => rfl
  | 13, _ => rfl
  | 14, _ => rfl
  | k + 15, h => exact absurd h (by omega)
set_option maxRecDepth 100000 in
theorem st_f61 (j : Nat) (hj : j < 3) : (va_up (va_up (va_up (fun _ => none) (0 : Int32).toNatClampNeg (some (u 81))) (1 : Int32).toNatClampNeg (some (u 83))) (2 : Int32).toNatClampNeg (some (u 85))) j = some ((adL h0 u h1 v h2).getD (82 + 2 * j) 0) := by
  simp only [cl_0, cl_1, cl_2]
  match j, hj with
  | 0, _ => rfl
  | 1, _ => rfl
  | 2, _ => rfl
  | k + 3, h => exact absurd h (by omega)
set_option maxRecDepth 100000 in
theorem st_f63 (j : Nat) (hj : j < 5) : (va_up (va_up (va_up (va_up (va_up (fun _ => none) (0 : Int32).toNatClampNeg (some (u 65))) (1 : Int32).toNatClampNeg (some (u 67))) (2 : Int32).toNatClampNeg (some (u 69))) (3 : Int32).toNatClampNeg (some (u 71))) (4 : Int32).toNatClampNeg (some (u 73))) j = some ((adL h0 u h1 v h2).getD (66 + 2 * j) 0) := by
  simp only [cl_0, cl_1, cl_2, cl_3, cl_4]
  match j, hj with
  | 0, _ => rfl
  | 1, _ => rfl
  | 2, _ => rfl
  | 3, _ => rfl
  | 4, _ => rfl
  | k + 5, h => exact absurd h (by omega)
theorem st_at {S : Sx} {k : Nat} {t : CellF} {q : Nat × va_E} (ht : (tab S)[k]? = some t) (he : va_at G vwCl (adr S k, t (w0.1 k) (w0.2.1 k) (w0.2.2 k)) H) (hq : (wsOf S w0)[k]? = some q) : va_at G vwCl q H := by
  have e := (wsOf_get (w := w0) ht).symm.trans hq
  rw [← Option.some.inj e]
  exact he
set_option maxRecDepth 100000 in
theorem st_c0 (hP : va_P G vwCl (stL ca h0 u h1 v h2) H) : va_at G vwCl (adr (S0 G ca kK kV fm h0 u h1 v h2) 0, (cO 9 (fsX10 (S0 G ca kK kV fm h0 u h1 v h2) 0)) (w0.1 0) (w0.2.1 0) (w0.2.2 0)) H := hP 0 _ (show (stL ca h0 u h1 v h2)[0]? = some (adr (S0 G ca kK kV fm h0 u h1 v h2) 0, (cO 9 (fsX10 (S0 G ca kK kV fm h0 u h1 v h2) 0)) (w0.1 0) (w0.2.1 0) (w0.2.2 0)) from rfl)
set_option maxRecDepth 100000 in
theorem st_c1 (hP : va_P G vwCl (stL ca h0 u h1 v h2) H) : va_at G vwCl (adr (S0 G ca kK kV fm h0 u h1 v h2) 1, (cO 7 (fsX8 (S0 G ca kK kV fm h0 u h1 v h2) 1)) (w0.1 1) (w0.2.1 1) (w0.2.2 1)) H := hP 1 _ (show (stL ca h0 u h1 v h2)[1]? = some (adr (S0 G ca kK kV fm h0 u h1 v h2) 1, (cO 7 (fsX8 (S0 G ca kK kV fm h0 u h1 v h2) 1)) (w0.1 1) (w0.2.1 1) (w0.2.2 1)) from rfl)
set_option maxRecDepth 100000 in
theorem st_c2 (hP : va_P G vwCl (stL ca h0 u h1 v h2) H) : va_at G vwCl (adr (S0 G ca kK kV fm h0 u h1 v h2) 2, (cI (S0 G ca kK kV fm h0 u h1 v h2) 80) (w0.1 2) (w0.2.1 2) (w0.2.2 2)) H := hP 2 _ (show (stL ca h0 u h1 v h2)[2]? = some (adr (S0 G ca kK kV fm h0 u h1 v h2) 2, (cI (S0 G ca kK kV fm h0 u h1 v h2) 80) (w0.1 2) (w0.2.1 2) (w0.2.2 2)) from rfl)
set_option maxRecDepth 100000 in
theorem st_c3 (hP : va_P G vwCl (stL ca h0 u h1 v h2) H) : va_at G vwCl (adr (S0 G ca kK kV fm h0 u h1 v h2) 3, (cO 6 (fsX7 (S0 G ca kK kV fm h0 u h1 v h2) 3)) (w0.1 3) (w0.2.1 3) (w0.2.2 3)) H := hP 3 _ (show (stL ca h0 u h1 v h2)[3]? = some (adr (S0 G ca kK kV fm h0 u h1 v h2) 3, (cO 6 (fsX7 (S0 G ca kK kV fm h0 u h1 v h2) 3)) (w0.1 3) (w0.2.1 3) (w0.2.2 3)) from rfl)
set_option maxRecDepth 100000 in
theorem st_c4 (hP : va_P G vwCl (stL ca h0 u h1 v h2) H) : va_at G vwCl (adr (S0 G ca kK kV fm h0 u h1 v h2) 4, (cJ (S0 G ca kK kV fm h0 u h1 v h2) 6) (w0.1 4) (w0.2.1 4) (w0.2.2 4)) H := hP 4 _ (show (stL ca h0 u h1 v h2)[4]? = some (adr (S0 G ca kK kV fm h0 u h1 v h2) 4, (cJ (S0 G ca kK kV fm h0 u h1 v h2) 6) (w0.1 4) (w0.2.1 4) (w0.2.2 4)) from rfl)
set_option maxRecDepth 100000 in
theorem st_c5 (hP : va_P G vwCl (stL ca h0 u h1 v h2) H) : va_at G vwCl (adr (S0 G ca kK kV fm h0 u h1 v h2) 5, (cO 8 (fsX9 (S0 G ca kK kV fm h0 u h1 v h2) 5)) (w0.1 5) (w0.2.1 5) (w0.2.2 5)) H := hP 5 _ (show (stL ca h0 u h1 v h2)[5]? = some (adr (S0 G ca kK kV fm h0 u h1 v h2) 5, (cO 8 (fsX9 (S0 G ca kK kV fm h0 u h1 v h2) 5)) (w0.1 5) (w0.2.1 5) (w0.2.2 5)) from rfl)
set_option maxRecDepth 100000 in
theorem st_c6 (hP : va_P G vwCl (stL ca h0 u h1 v h2) H) : va_at G vwCl (adr (S0 G ca kK kV fm h0 u h1 v h2) 6, (cO 4 (fsX5 (S0 G ca kK kV fm h0 u h1 v h2) 6)) (w0.1 6) (w0.2.1 6) (w0.2.2 6)) H := hP 6 _ (show (stL ca h0 u h1 v h2)[6]? = some (adr (S0 G ca kK kV fm h0 u h1 v h2) 6, (cO 4 (fsX5 (S0 G ca kK kV fm h0 u h1 v h2) 6)) (w0.1 6) (w0.2.1 6) (w0.2.2 6)) from rfl)
set_option maxRecDepth 100000 in
theorem st_c7 (hP : va_P G vwCl (stL ca h0 u h1 v h2) H) : va_at G vwCl (adr (S0 G ca kK kV fm h0 u h1 v h2) 7, (cI (S0 G ca kK kV fm h0 u h1 v h2) 8) (w0.1 7) (w0.2.1 7) (w0.2.2 7)) H := hP 7 _ (show (stL ca h0 u h1 v h2)[7]? = some (adr (S0 G ca kK kV fm h0 u h1 v h2) 7, (cI (S0 G ca kK kV fm h0 u h1 v h2) 8) (w0.1 7) (w0.2.1 7) (w0.2.2 7)) from rfl)
set_option maxRecDepth 100000 in
theorem st_c8 (hP : va_P G vwCl (stL ca h0 u h1 v h2) H) : va_at G vwCl (adr (S0 G ca kK kV fm h0 u h1 v h2) 8, (cI (S0 G ca kK kV fm h0 u h1 v h2) 8) (w0.1 8) (w0.2.1 8) (w0.2.2 8)) H := hP 8 _ (show (stL ca h0 u h1 v h2)[8]? = some (adr (S0 G ca kK kV fm h0 u h1 v h2) 8, (cI (S0 G ca kK kV fm h0 u h1 v h2) 8) (w0.1 8) (w0.2.1 8) (w0.2.2 8)) from rfl)
set_option maxRecDepth 100000 in
theorem st_c9 (hP : va_P G vwCl (stL ca h0 u h1 v h2) H) : va_at G vwCl (adr (S0 G ca kK kV fm h0 u h1 v h2) 9, (cO 4 (fsX5 (S0 G ca kK kV fm h0 u h1 v h2) 9)) (w0.1 9) (w0.2.1 9) (w0.2.2 9)) H := hP 9 _ (show (stL ca h0 u h1 v h2)[9]? = some (adr (S0 G ca kK kV fm h0 u h1 v h2) 9, (cO 4 (fsX5 (S0 G ca kK kV fm h0 u h1 v h2) 9)) (w0.1 9) (w0.2.1 9) (w0.2.2 9)) from rfl)
set_option maxRecDepth 100000 in
theorem st_c10 (hP : va_P G vwCl (stL ca h0 u h1 v h2) H) : va_at G vwCl (adr (S0 G ca kK kV fm h0 u h1 v h2) 10, (cI (S0 G ca kK kV fm h0 u h1 v h2) 8) (w0.1 10) (w0.2.1 10) (w0.2.2 10)) H := hP 10 _ (show (stL ca h0 u h1 v h2)[10]? = some (adr (S0 G ca kK kV fm h0 u h1 v h2) 10, (cI (S0 G ca kK kV fm h0 u h1 v h2) 8) (w0.1 10) (w0.2.1 10) (w0.2.2 10)) from rfl)
set_option maxRecDepth 100000 in
theorem st_c11 (hP : va_P G vwCl (stL ca h0 u h1 v h2) H) : va_at G vwCl (adr (S0 G ca kK kV fm h0 u h1 v h2) 11, (cI (S0 G ca kK kV fm h0 u h1 v h2) 8) (w0.1 11) (w0.2.1 11) (w0.2.2 11)) H := hP 11 _ (show (stL ca h0 u h1 v h2)[11]? = some (adr (S0 G ca kK kV fm h0 u h1 v h2) 11, (cI (S0 G ca kK kV fm h0 u h1 v h2) 8) (w0.1 11) (w0.2.1 11) (w0.2.2 11)) from rfl)
set_option maxRecDepth 100000 in
theorem st_c12 (hP : va_P G vwCl (stL ca h0 u h1 v h2) H) : va_at G vwCl (adr (S0 G ca kK kV fm h0 u h1 v h2) 12, (cO 1 (fsX2 (S0 G ca kK kV fm h0 u h1 v h2) 12)) (w0.1 12) (w0.2.1 12) (w0.2.2 12)) H := hP 12 _ (show (stL ca h0 u h1 v h2)[12]? = some (adr (S0 G ca kK kV fm h0 u h1 v h2) 12, (cO 1 (fsX2 (S0 G ca kK kV fm h0 u h1 v h2) 12)) (w0.1 12) (w0.2.1 12) (w0.2.2 12)) from rfl)
set_option maxRecDepth 100000 in
theorem st_c13 (hP : va_P G vwCl (stL ca h0 u h1 v h2) H) : va_at G vwCl (adr (S0 G ca kK kV fm h0 u h1 v h2) 13, (cI (S0 G ca kK kV fm h0 u h1 v h2) 40) (w0.1 13) (w0.2.1 13) (w0.2.2 13)) H := hP 13 _ (show (stL ca h0 u h1 v h2)[13]? = some (adr (S0 G ca kK kV fm h0 u h1 v h2) 13, (cI (S0 G ca kK kV fm h0 u h1 v h2) 40) (w0.1 13) (w0.2.1 13) (w0.2.2 13)) from rfl)
set_option maxRecDepth 100000 in
theorem st_c14 (hP : va_P G vwCl (stL ca h0 u h1 v h2) H) : va_at G vwCl (adr (S0 G ca kK kV fm h0 u h1 v h2) 14, (cI (S0 G ca kK kV fm h0 u h1 v h2) 7) (w0.1 14) (w0.2.1 14) (w0.2.2 14)) H := hP 14 _ (show (stL ca h0 u h1 v h2)[14]? = some (adr (S0 G ca kK kV fm h0 u h1 v h2) 14, (cI (S0 G ca kK kV fm h0 u h1 v h2) 7) (w0.1 14) (w0.2.1 14) (w0.2.2 14)) from rfl)
set_option maxRecDepth 100000 in
theorem st_c15 (hP : va_P G vwCl (stL ca h0 u h1 v h2) H) : va_at G vwCl (adr (S0 G ca kK kV fm h0 u h1 v h2) 15, (cI (S0 G ca kK kV fm h0 u h1 v h2) 41) (w0.1 15) (w0.2.1 15) (w0.2.2 15)) H := hP 15 _ (show (stL ca h0 u h1 v h2)[15]? = some (adr (S0 G ca kK kV fm h0 u h1 v h2) 15, (cI (S0 G ca kK kV fm h0 u h1 v h2) 41) (w0.1 15) (w0.2.1 15) (w0.2.2 15)) from rfl)
set_option maxRecDepth 100000 in
theorem st_c16 (hP : va_P G vwCl (stL ca h0 u h1 v h2) H) : va_at G vwCl (adr (S0 G ca kK kV fm h0 u h1 v h2) 16, (cI (S0 G ca kK kV fm h0 u h1 v h2) 40) (w0.1 16) (w0.2.1 16) (w0.2.2 16)) H := hP 16 _ (show (stL ca h0 u h1 v h2)[16]? = some (adr (S0 G ca kK kV fm h0 u h1 v h2) 16, (cI (S0 G ca kK kV fm h0 u h1 v h2) 40) (w0.1 16) (w0.2.1 16) (w0.2.2 16)) from rfl)
set_option maxRecDepth 100000 in
theorem st_c17 (hP : va_P G vwCl (stL ca h0 u h1 v h2) H) : va_at G vwCl (adr (S0 G ca kK kV fm h0 u h1 v h2) 17, (cO 8 (fsX9 (S0 G ca kK kV fm h0 u h1 v h2) 17)) (w0.1 17) (w0.2.1 17) (w0.2.2 17)) H := hP 17 _ (show (stL ca h0 u h1 v h2)[17]? = some (adr (S0 G ca kK kV fm h0 u h1 v h2) 17, (cO 8 (fsX9 (S0 G ca kK kV fm h0 u h1 v h2) 17)) (w0.1 17) (w0.2.1 17) (w0.2.2 17)) from rfl)
set_option maxRecDepth 100000 in
theorem st_c18 (hP : va_P G vwCl (stL ca h0 u h1 v h2) H) : va_at G vwCl (adr (S0 G ca kK kV fm h0 u h1 v h2) 18, (cO 1 (fsX2 (S0 G ca kK kV fm h0 u h1 v h2) 18)) (w0.1 18) (w0.2.1 18) (w0.2.2 18)) H := hP 18 _ (show (stL ca h0 u h1 v h2)[18]? = some (adr (S0 G ca kK kV fm h0 u h1 v h2) 18, (cO 1 (fsX2 (S0 G ca kK kV fm h0 u h1 v h2) 18)) (w0.1 18) (w0.2.1 18) (w0.2.2 18)) from rfl)
set_option maxRecDepth 100000 in
theorem st_c19 (hP : va_P G vwCl (stL ca h0 u h1 v h2) H) : va_at G vwCl (adr (S0 G ca kK kV fm h0 u h1 v h2) 19, (cI (S0 G ca kK kV fm h0 u h1 v h2) 40) (w0.1 19) (w0.2.1 19) (w0.2.2 19)) H := hP 19 _ (show (stL ca h0 u h1 v h2)[19]? = some (adr (S0 G ca kK kV fm h0 u h1 v h2) 19, (cI (S0 G ca kK kV fm h0 u h1 v h2) 40) (w0.1 19) (w0.2.1 19) (w0.2.2 19)) from rfl)
set_option maxRecDepth 100000 in
theorem st_c20 (hP : va_P G vwCl (stL ca h0 u h1 v h2) H) : va_at G vwCl (adr (S0 G ca kK kV fm h0 u h1 v h2) 20, (cI (S0 G ca kK kV fm h0 u h1 v h2) 7) (w0.1 20) (w0.2.1 20) (w0.2.2 20)) H := hP 20 _ (show (stL ca h0 u h1 v h2)[20]? = some (adr (S0 G ca kK kV fm h0 u h1 v h2) 20, (cI (S0 G ca kK kV fm h0 u h1 v h2) 7) (w0.1 20) (w0.2.1 20) (w0.2.2 20)) from rfl)
set_option maxRecDepth 100000 in
theorem st_c21 (hP : va_P G vwCl (stL ca h0 u h1 v h2) H) : va_at G vwCl (adr (S0 G ca kK kV fm h0 u h1 v h2) 21, (cI (S0 G ca kK kV fm h0 u h1 v h2) 41) (w0.1 21) (w0.2.1 21) (w0.2.2 21)) H := hP 21 _ (show (stL ca h0 u h1 v h2)[21]? = some (adr (S0 G ca kK kV fm h0 u h1 v h2) 21, (cI (S0 G ca kK kV fm h0 u h1 v h2) 41) (w0.1 21) (w0.2.1 21) (w0.2.2 21)) from rfl)
set_option maxRecDepth 100000 in
theorem st_c22 (hP : va_P G vwCl (stL ca h0 u h1 v h2) H) : va_at G vwCl (adr (S0 G ca kK kV fm h0 u h1 v h2) 22, (cI (S0 G ca kK kV fm h0 u h1 v h2) 40) (w0.1 22) (w0.2.1 22) (w0.2.2 22)) H := hP 22 _ (show (stL ca h0 u h1 v h2)[22]? = some (adr (S0 G ca kK kV fm h0 u h1 v h2) 22, (cI (S0 G ca kK kV fm h0 u h1 v h2) 40) (w0.1 22) (w0.2.1 22) (w0.2.2 22)) from rfl)
set_option maxRecDepth 100000 in
theorem st_c23 (hP : va_P G vwCl (stL ca h0 u h1 v h2) H) : va_at G vwCl (adr (S0 G ca kK kV fm h0 u h1 v h2) 23, (cO 0 (fsX1 (S0 G ca kK kV fm h0 u h1 v h2) 23)) (w0.1 23) (w0.2.1 23) (w0.2.2 23)) H := hP 23 _ (show (stL ca h0 u h1 v h2)[23]? = some (adr (S0 G ca kK kV fm h0 u h1 v h2) 23, (cO 0 (fsX1 (S0 G ca kK kV fm h0 u h1 v h2) 23)) (w0.1 23) (w0.2.1 23) (w0.2.2 23)) from rfl)
set_option maxRecDepth 100000 in
theorem st_c24 (hP : va_P G vwCl (stL ca h0 u h1 v h2) H) : va_at G vwCl (adr (S0 G ca kK kV fm h0 u h1 v h2) 24, (cI (S0 G ca kK kV fm h0 u h1 v h2) 8) (w0.1 24) (w0.2.1 24) (w0.2.2 24)) H := hP 24 _ (show (stL ca h0 u h1 v h2)[24]? = some (adr (S0 G ca kK kV fm h0 u h1 v h2) 24, (cI (S0 G ca kK kV fm h0 u h1 v h2) 8) (w0.1 24) (w0.2.1 24) (w0.2.2 24)) from rfl)
set_option maxRecDepth 100000 in
theorem st_c25 (hP : va_P G vwCl (stL ca h0 u h1 v h2) H) : va_at G vwCl (adr (S0 G ca kK kV fm h0 u h1 v h2) 25, (cO 0 (fsX1 (S0 G ca kK kV fm h0 u h1 v h2) 25)) (w0.1 25) (w0.2.1 25) (w0.2.2 25)) H := hP 25 _ (show (stL ca h0 u h1 v h2)[25]? = some (adr (S0 G ca kK kV fm h0 u h1 v h2) 25, (cO 0 (fsX1 (S0 G ca kK kV fm h0 u h1 v h2) 25)) (w0.1 25) (w0.2.1 25) (w0.2.2 25)) from rfl)
set_option maxRecDepth 100000 in
theorem st_c26 (hP : va_P G vwCl (stL ca h0 u h1 v h2) H) : va_at G vwCl (adr (S0 G ca kK kV fm h0 u h1 v h2) 26, (cI (S0 G ca kK kV fm h0 u h1 v h2) 8) (w0.1 26) (w0.2.1 26) (w0.2.2 26)) H := hP 26 _ (show (stL ca h0 u h1 v h2)[26]? = some (adr (S0 G ca kK kV fm h0 u h1 v h2) 26, (cI (S0 G ca kK kV fm h0 u h1 v h2) 8) (w0.1 26) (w0.2.1 26) (w0.2.2 26)) from rfl)
set_option maxRecDepth 100000 in
theorem st_c27 (hP : va_P G vwCl (stL ca h0 u h1 v h2) H) : va_at G vwCl (adr (S0 G ca kK kV fm h0 u h1 v h2) 27, (cO 0 (fsX1 (S0 G ca kK kV fm h0 u h1 v h2) 27)) (w0.1 27) (w0.2.1 27) (w0.2.2 27)) H := hP 27 _ (show (stL ca h0 u h1 v h2)[27]? = some (adr (S0 G ca kK kV fm h0 u h1 v h2) 27, (cO 0 (fsX1 (S0 G ca kK kV fm h0 u h1 v h2) 27)) (w0.1 27) (w0.2.1 27) (w0.2.2 27)) from rfl)
set_option maxRecDepth 100000 in
theorem st_c28 (hP : va_P G vwCl (stL ca h0 u h1 v h2) H) : va_at G vwCl (adr (S0 G ca kK kV fm h0 u h1 v h2) 28, (cI (S0 G ca kK kV fm h0 u h1 v h2) 8) (w0.1 28) (w0.2.1 28) (w0.2.2 28)) H := hP 28 _ (show (stL ca h0 u h1 v h2)[28]? = some (adr (S0 G ca kK kV fm h0 u h1 v h2) 28, (cI (S0 G ca kK kV fm h0 u h1 v h2) 8) (w0.1 28) (w0.2.1 28) (w0.2.2 28)) from rfl)
set_option maxRecDepth 100000 in
theorem st_c29 (hP : va_P G vwCl (stL ca h0 u h1 v h2) H) : va_at G vwCl (adr (S0 G ca kK kV fm h0 u h1 v h2) 29, (cO 3 (fsX4 (S0 G ca kK kV fm h0 u h1 v h2) 29)) (w0.1 29) (w0.2.1 29) (w0.2.2 29)) H := hP 29 _ (show (stL ca h0 u h1 v h2)[29]? = some (adr (S0 G ca kK kV fm h0 u h1 v h2) 29, (cO 3 (fsX4 (S0 G ca kK kV fm h0 u h1 v h2) 29)) (w0.1 29) (w0.2.1 29) (w0.2.2 29)) from rfl)
set_option maxRecDepth 100000 in
theorem st_c30 (hP : va_P G vwCl (stL ca h0 u h1 v h2) H) : va_at G vwCl (adr (S0 G ca kK kV fm h0 u h1 v h2) 30, (cB (S0 G ca kK kV fm h0 u h1 v h2) 15 31) (w0.1 30) (w0.2.1 30) (w0.2.2 30)) H := st_B (hP 30 _ (show (stL ca h0 u h1 v h2)[30]? = some (adr (S0 G ca kK kV fm h0 u h1 v h2) 30, .inl (ca 3, 15, .inr (.inr (.inr (.inr (va_up (va_up (va_up (va_up (va_up (va_up (va_up (va_up (va_up (va_up (va_up (va_up (va_up (va_up (va_up (fun _ => none) (0 : Int32).toNatClampNeg (some (u 30))) (1 : Int32).toNatClampNeg (some (u 32))) (2 : Int32).toNatClampNeg (some (u 34))) (3 : Int32).toNatClampNeg (some (u 36))) (4 : Int32).toNatClampNeg (some (u 38))) (5 : Int32).toNatClampNeg (some (u 40))) (6 : Int32).toNatClampNeg (some (u 42))) (7 : Int32).toNatClampNeg (some (u 44))) (8 : Int32).toNatClampNeg (some (u 46))) (9 : Int32).toNatClampNeg (some (u 48))) (10 : Int32).toNatClampNeg (some (u 50))) (11 : Int32).toNatClampNeg (some (u 52))) (12 : Int32).toNatClampNeg (some (u 54))) (13 : Int32).toNatClampNeg (some (u 56))) (14 : Int32).toNatClampNeg (some (u 58)))))))) from rfl)) st_f30
set_option maxRecDepth 100000 in
theorem st_c31 (hP : va_P G vwCl (stL ca h0 u h1 v h2) H) : va_at G vwCl (adr (S0 G ca kK kV fm h0 u h1 v h2) 31, (cO 0 (fsX1 (S0 G ca kK kV fm h0 u h1 v h2) 31)) (w0.1 31) (w0.2.1 31) (w0.2.2 31)) H := hP 31 _ (show (stL ca h0 u h1 v h2)[31]? = some (adr (S0 G ca kK kV fm h0 u h1 v h2) 31, (cO 0 (fsX1 (S0 G ca kK kV fm h0 u h1 v h2) 31)) (w0.1 31) (w0.2.1 31) (w0.2.2 31)) from rfl)
set_option maxRecDepth 100000 in
theorem st_c32 (hP : va_P G vwCl (stL ca h0 u h1 v h2) H) : va_at G vwCl (adr (S0 G ca kK kV fm h0 u h1 v h2) 32, (cI (S0 G ca kK kV fm h0 u h1 v h2) 8) (w0.1 32) (w0.2.1 32) (w0.2.2 32)) H := hP 32 _ (show (stL ca h0 u h1 v h2)[32]? = some (adr (S0 G ca kK kV fm h0 u h1 v h2) 32, (cI (S0 G ca kK kV fm h0 u h1 v h2) 8) (w0.1 32) (w0.2.1 32) (w0.2.2 32)) from rfl)
set_option maxRecDepth 100000 in
theorem st_c33 (hP : va_P G vwCl (stL ca h0 u h1 v h2) H) : va_at G vwCl (adr (S0 G ca kK kV fm h0 u h1 v h2) 33, (cO 0 (fsX1 (S0 G ca kK kV fm h0 u h1 v h2) 33)) (w0.1 33) (w0.2.1 33) (w0.2.2 33)) H := hP 33 _ (show (stL ca h0 u h1 v h2)[33]? = some (adr (S0 G ca kK kV fm h0 u h1 v h2) 33, (cO 0 (fsX1 (S0 G ca kK kV fm h0 u h1 v h2) 33)) (w0.1 33) (w0.2.1 33) (w0.2.2 33)) from rfl)
set_option maxRecDepth 100000 in
theorem st_c34 (hP : va_P G vwCl (stL ca h0 u h1 v h2) H) : va_at G vwCl (adr (S0 G ca kK kV fm h0 u h1 v h2) 34, (cI (S0 G ca kK kV fm h0 u h1 v h2) 8) (w0.1 34) (w0.2.1 34) (w0.2.2 34)) H := hP 34 _ (show (stL ca h0 u h1 v h2)[34]? = some (adr (S0 G ca kK kV fm h0 u h1 v h2) 34, (cI (S0 G ca kK kV fm h0 u h1 v h2) 8) (w0.1 34) (w0.2.1 34) (w0.2.2 34)) from rfl)
set_option maxRecDepth 100000 in
theorem st_c35 (hP : va_P G vwCl (stL ca h0 u h1 v h2) H) : va_at G vwCl (adr (S0 G ca kK kV fm h0 u h1 v h2) 35, (cO 0 (fsX1 (S0 G ca kK kV fm h0 u h1 v h2) 35)) (w0.1 35) (w0.2.1 35) (w0.2.2 35)) H := hP 35 _ (show (stL ca h0 u h1 v h2)[35]? = some (adr (S0 G ca kK kV fm h0 u h1 v h2) 35, (cO 0 (fsX1 (S0 G ca kK kV fm h0 u h1 v h2) 35)) (w0.1 35) (w0.2.1 35) (w0.2.2 35)) from rfl)
set_option maxRecDepth 100000 in
theorem st_c36 (hP : va_P G vwCl (stL ca h0 u h1 v h2) H) : va_at G vwCl (adr (S0 G ca kK kV fm h0 u h1 v h2) 36, (cI (S0 G ca kK kV fm h0 u h1 v h2) 8) (w0.1 36) (w0.2.1 36) (w0.2.2 36)) H := hP 36 _ (show (stL ca h0 u h1 v h2)[36]? = some (adr (S0 G ca kK kV fm h0 u h1 v h2) 36, (cI (S0 G ca kK kV fm h0 u h1 v h2) 8) (w0.1 36) (w0.2.1 36) (w0.2.2 36)) from rfl)
set_option maxRecDepth 100000 in
theorem st_c37 (hP : va_P G vwCl (stL ca h0 u h1 v h2) H) : va_at G vwCl (adr (S0 G ca kK kV fm h0 u h1 v h2) 37, (cO 0 (fsX1 (S0 G ca kK kV fm h0 u h1 v h2) 37)) (w0.1 37) (w0.2.1 37) (w0.2.2 37)) H := hP 37 _ (show (stL ca h0 u h1 v h2)[37]? = some (adr (S0 G ca kK kV fm h0 u h1 v h2) 37, (cO 0 (fsX1 (S0 G ca kK kV fm h0 u h1 v h2) 37)) (w0.1 37) (w0.2.1 37) (w0.2.2 37)) from rfl)
set_option maxRecDepth 100000 in
theorem st_c38 (hP : va_P G vwCl (stL ca h0 u h1 v h2) H) : va_at G vwCl (adr (S0 G ca kK kV fm h0 u h1 v h2) 38, (cI (S0 G ca kK kV fm h0 u h1 v h2) 8) (w0.1 38) (w0.2.1 38) (w0.2.2 38)) H := hP 38 _ (show (stL ca h0 u h1 v h2)[38]? = some (adr (S0 G ca kK kV fm h0 u h1 v h2) 38, (cI (S0 G ca kK kV fm h0 u h1 v h2) 8) (w0.1 38) (w0.2.1 38) (w0.2.2 38)) from rfl)
set_option maxRecDepth 100000 in
theorem st_c39 (hP : va_P G vwCl (stL ca h0 u h1 v h2) H) : va_at G vwCl (adr (S0 G ca kK kV fm h0 u h1 v h2) 39, (cO 0 (fsX1 (S0 G ca kK kV fm h0 u h1 v h2) 39)) (w0.1 39) (w0.2.1 39) (w0.2.2 39)) H := hP 39 _ (show (stL ca h0 u h1 v h2)[39]? = some (adr (S0 G ca kK kV fm h0 u h1 v h2) 39, (cO 0 (fsX1 (S0 G ca kK kV fm h0 u h1 v h2) 39)) (w0.1 39) (w0.2.1 39) (w0.2.2 39)) from rfl)
set_option maxRecDepth 100000 in
theorem st_c40 (hP : va_P G vwCl (stL ca h0 u h1 v h2) H) : va_at G vwCl (adr (S0 G ca kK kV fm h0 u h1 v h2) 40, (cI (S0 G ca kK kV fm h0 u h1 v h2) 8) (w0.1 40) (w0.2.1 40) (w0.2.2 40)) H := hP 40 _ (show (stL ca h0 u h1 v h2)[40]? = some (adr (S0 G ca kK kV fm h0 u h1 v h2) 40, (cI (S0 G ca kK kV fm h0 u h1 v h2) 8) (w0.1 40) (w0.2.1 40) (w0.2.2 40)) from rfl)
set_option maxRecDepth 100000 in
theorem st_c41 (hP : va_P G vwCl (stL ca h0 u h1 v h2) H) : va_at G vwCl (adr (S0 G ca kK kV fm h0 u h1 v h2) 41, (cO 0 (fsX1 (S0 G ca kK kV fm h0 u h1 v h2) 41)) (w0.1 41) (w0.2.1 41) (w0.2.2 41)) H := hP 41 _ (show (stL ca h0 u h1 v h2)[41]? = some (adr (S0 G ca kK kV fm h0 u h1 v h2) 41, (cO 0 (fsX1 (S0 G ca kK kV fm h0 u h1 v h2) 41)) (w0.1 41) (w0.2.1 41) (w0.2.2 41)) from rfl)
set_option maxRecDepth 100000 in
theorem st_c42 (hP : va_P G vwCl (stL ca h0 u h1 v h2) H) : va_at G vwCl (adr (S0 G ca kK kV fm h0 u h1 v h2) 42, (cI (S0 G ca kK kV fm h0 u h1 v h2) 8) (w0.1 42) (w0.2.1 42) (w0.2.2 42)) H := hP 42 _ (show (stL ca h0 u h1 v h2)[42]? = some (adr (S0 G ca kK kV fm h0 u h1 v h2) 42, (cI (S0 G ca kK kV fm h0 u h1 v h2) 8) (w0.1 42) (w0.2.1 42) (w0.2.2 42)) from rfl)
set_option maxRecDepth 100000 in
theorem st_c43 (hP : va_P G vwCl (stL ca h0 u h1 v h2) H) : va_at G vwCl (adr (S0 G ca kK kV fm h0 u h1 v h2) 43, (cO 0 (fsX1 (S0 G ca kK kV fm h0 u h1 v h2) 43)) (w0.1 43) (w0.2.1 43) (w0.2.2 43)) H := hP 43 _ (show (stL ca h0 u h1 v h2)[43]? = some (adr (S0 G ca kK kV fm h0 u h1 v h2) 43, (cO 0 (fsX1 (S0 G ca kK kV fm h0 u h1 v h2) 43)) (w0.1 43) (w0.2.1 43) (w0.2.2 43)) from rfl)
set_option maxRecDepth 100000 in
theorem st_c44 (hP : va_P G vwCl (stL ca h0 u h1 v h2) H) : va_at G vwCl (adr (S0 G ca kK kV fm h0 u h1 v h2) 44, (cI (S0 G ca kK kV fm h0 u h1 v h2) 8) (w0.1 44) (w0.2.1 44) (w0.2.2 44)) H := hP 44 _ (show (stL ca h0 u h1 v h2)[44]? = some (adr (S0 G ca kK kV fm h0 u h1 v h2) 44, (cI (S0 G ca kK kV fm h0 u h1 v h2) 8) (w0.1 44) (w0.2.1 44) (w0.2.2 44)) from rfl)
set_option maxRecDepth 100000 in
theorem st_c45 (hP : va_P G vwCl (stL ca h0 u h1 v h2) H) : va_at G vwCl (adr (S0 G ca kK kV fm h0 u h1 v h2) 45, (cO 0 (fsX1 (S0 G ca kK kV fm h0 u h1 v h2) 45)) (w0.1 45) (w0.2.1 45) (w0.2.2 45)) H := hP 45 _ (show (stL ca h0 u h1 v h2)[45]? = some (adr (S0 G ca kK kV fm h0 u h1 v h2) 45, (cO 0 (fsX1 (S0 G ca kK kV fm h0 u h1 v h2) 45)) (w0.1 45) (w0.2.1 45) (w0.2.2 45)) from rfl)
set_option maxRecDepth 100000 in
theorem st_c46 (hP : va_P G vwCl (stL ca h0 u h1 v h2) H) : va_at G vwCl (adr (S0 G ca kK kV fm h0 u h1 v h2) 46, (cI (S0 G ca kK kV fm h0 u h1 v h2) 8) (w0.1 46) (w0.2.1 46) (w0.2.2 46)) H := hP 46 _ (show (stL ca h0 u h1 v h2)[46]? = some (adr (S0 G ca kK kV fm h0 u h1 v h2) 46, (cI (S0 G ca kK kV fm h0 u h1 v h2) 8) (w0.1 46) (w0.2.1 46) (w0.2.2 46)) from rfl)
set_option maxRecDepth 100000 in
theorem st_c47 (hP : va_P G vwCl (stL ca h0 u h1 v h2) H) : va_at G vwCl (adr (S0 G ca kK kV fm h0 u h1 v h2) 47, (cO 0 (fsX1 (S0 G ca kK kV fm h0 u h1 v h2) 47)) (w0.1 47) (w0.2.1 47) (w0.2.2 47)) H := hP 47 _ (show (stL ca h0 u h1 v h2)[47]? = some (adr (S0 G ca kK kV fm h0 u h1 v h2) 47, (cO 0 (fsX1 (S0 G ca kK kV fm h0 u h1 v h2) 47)) (w0.1 47) (w0.2.1 47) (w0.2.2 47)) from rfl)
set_option maxRecDepth 100000 in
theorem st_c48 (hP : va_P G vwCl (stL ca h0 u h1 v h2) H) : va_at G vwCl (adr (S0 G ca kK kV fm h0 u h1 v h2) 48, (cI (S0 G ca kK kV fm h0 u h1 v h2) 8) (w0.1 48) (w0.2.1 48) (w0.2.2 48)) H := hP 48 _ (show (stL ca h0 u h1 v h2)[48]? = some (adr (S0 G ca kK kV fm h0 u h1 v h2) 48, (cI (S0 G ca kK kV fm h0 u h1 v h2) 8) (w0.1 48) (w0.2.1 48) (w0.2.2 48)) from rfl)
set_option maxRecDepth 100000 in
theorem st_c49 (hP : va_P G vwCl (stL ca h0 u h1 v h2) H) : va_at G vwCl (adr (S0 G ca kK kV fm h0 u h1 v h2) 49, (cO 0 (fsX1 (S0 G ca kK kV fm h0 u h1 v h2) 49)) (w0.1 49) (w0.2.1 49) (w0.2.2 49)) H := hP 49 _ (show (stL ca h0 u h1 v h2)[49]? = some (adr (S0 G ca kK kV fm h0 u h1 v h2) 49, (cO 0 (fsX1 (S0 G ca kK kV fm h0 u h1 v h2) 49)) (w0.1 49) (w0.2.1 49) (w0.2.2 49)) from rfl)
set_option maxRecDepth 100000 in
theorem st_c50 (hP : va_P G vwCl (stL ca h0 u h1 v h2) H) : va_at G vwCl (adr (S0 G ca kK kV fm h0 u h1 v h2) 50, (cI (S0 G ca kK kV fm h0 u h1 v h2) 8) (w0.1 50) (w0.2.1 50) (w0.2.2 50)) H := hP 50 _ (show (stL ca h0 u h1 v h2)[50]? = some (adr (S0 G ca kK kV fm h0 u h1 v h2) 50, (cI (S0 G ca kK kV fm h0 u h1 v h2) 8) (w0.1 50) (w0.2.1 50) (w0.2.2 50)) from rfl)
set_option maxRecDepth 100000 in
theorem st_c51 (hP : va_P G vwCl (stL ca h0 u h1 v h2) H) : va_at G vwCl (adr (S0 G ca kK kV fm h0 u h1 v h2) 51, (cO 0 (fsX1 (S0 G ca kK kV fm h0 u h1 v h2) 51)) (w0.1 51) (w0.2.1 51) (w0.2.2 51)) H := hP 51 _ (show (stL ca h0 u h1 v h2)[51]? = some (adr (S0 G ca kK kV fm h0 u h1 v h2) 51, (cO 0 (fsX1 (S0 G ca kK kV fm h0 u h1 v h2) 51)) (w0.1 51) (w0.2.1 51) (w0.2.2 51)) from rfl)
set_option maxRecDepth 100000 in
theorem st_c52 (hP : va_P G vwCl (stL ca h0 u h1 v h2) H) : va_at G vwCl (adr (S0 G ca kK kV fm h0 u h1 v h2) 52, (cI (S0 G ca kK kV fm h0 u h1 v h2) 8) (w0.1 52) (w0.2.1 52) (w0.2.2 52)) H := hP 52 _ (show (stL ca h0 u h1 v h2)[52]? = some (adr (S0 G ca kK kV fm h0 u h1 v h2) 52, (cI (S0 G ca kK kV fm h0 u h1 v h2) 8) (w0.1 52) (w0.2.1 52) (w0.2.2 52)) from rfl)
set_option maxRecDepth 100000 in
theorem st_c53 (hP : va_P G vwCl (stL ca h0 u h1 v h2) H) : va_at G vwCl (adr (S0 G ca kK kV fm h0 u h1 v h2) 53, (cO 0 (fsX1 (S0 G ca kK kV fm h0 u h1 v h2) 53)) (w0.1 53) (w0.2.1 53) (w0.2.2 53)) H := hP 53 _ (show (stL ca h0 u h1 v h2)[53]? = some (adr (S0 G ca kK kV fm h0 u h1 v h2) 53, (cO 0 (fsX1 (S0 G ca kK kV fm h0 u h1 v h2) 53)) (w0.1 53) (w0.2.1 53) (w0.2.2 53)) from rfl)
set_option maxRecDepth 100000 in
theorem st_c54 (hP : va_P G vwCl (stL ca h0 u h1 v h2) H) : va_at G vwCl (adr (S0 G ca kK kV fm h0 u h1 v h2) 54, (cI (S0 G ca kK kV fm h0 u h1 v h2) 8) (w0.1 54) (w0.2.1 54) (w0.2.2 54)) H := hP 54 _ (show (stL ca h0 u h1 v h2)[54]? = some (adr (S0 G ca kK kV fm h0 u h1 v h2) 54, (cI (S0 G ca kK kV fm h0 u h1 v h2) 8) (w0.1 54) (w0.2.1 54) (w0.2.2 54)) from rfl)
set_option maxRecDepth 100000 in
theorem st_c55 (hP : va_P G vwCl (stL ca h0 u h1 v h2) H) : va_at G vwCl (adr (S0 G ca kK kV fm h0 u h1 v h2) 55, (cO 0 (fsX1 (S0 G ca kK kV fm h0 u h1 v h2) 55)) (w0.1 55) (w0.2.1 55) (w0.2.2 55)) H := hP 55 _ (show (stL ca h0 u h1 v h2)[55]? = some (adr (S0 G ca kK kV fm h0 u h1 v h2) 55, (cO 0 (fsX1 (S0 G ca kK kV fm h0 u h1 v h2) 55)) (w0.1 55) (w0.2.1 55) (w0.2.2 55)) from rfl)
set_option maxRecDepth 100000 in
theorem st_c56 (hP : va_P G vwCl (stL ca h0 u h1 v h2) H) : va_at G vwCl (adr (S0 G ca kK kV fm h0 u h1 v h2) 56, (cI (S0 G ca kK kV fm h0 u h1 v h2) 8) (w0.1 56) (w0.2.1 56) (w0.2.2 56)) H := hP 56 _ (show (stL ca h0 u h1 v h2)[56]? = some (adr (S0 G ca kK kV fm h0 u h1 v h2) 56, (cI (S0 G ca kK kV fm h0 u h1 v h2) 8) (w0.1 56) (w0.2.1 56) (w0.2.2 56)) from rfl)
set_option maxRecDepth 100000 in
theorem st_c57 (hP : va_P G vwCl (stL ca h0 u h1 v h2) H) : va_at G vwCl (adr (S0 G ca kK kV fm h0 u h1 v h2) 57, (cO 0 (fsX1 (S0 G ca kK kV fm h0 u h1 v h2) 57)) (w0.1 57) (w0.2.1 57) (w0.2.2 57)) H := hP 57 _ (show (stL ca h0 u h1 v h2)[57]? = some (adr (S0 G ca kK kV fm h0 u h1 v h2) 57, (cO 0 (fsX1 (S0 G ca kK kV fm h0 u h1 v h2) 57)) (w0.1 57) (w0.2.1 57) (w0.2.2 57)) from rfl)
set_option maxRecDepth 100000 in
theorem st_c58 (hP : va_P G vwCl (stL ca h0 u h1 v h2) H) : va_at G vwCl (adr (S0 G ca kK kV fm h0 u h1 v h2) 58, (cI (S0 G ca kK kV fm h0 u h1 v h2) 8) (w0.1 58) (w0.2.1 58) (w0.2.2 58)) H := hP 58 _ (show (stL ca h0 u h1 v h2)[58]? = some (adr (S0 G ca kK kV fm h0 u h1 v h2) 58, (cI (S0 G ca kK kV fm h0 u h1 v h2) 8) (w0.1 58) (w0.2.1 58) (w0.2.2 58)) from rfl)
set_option maxRecDepth 100000 in
theorem st_c59 (hP : va_P G vwCl (stL ca h0 u h1 v h2) H) : va_at G vwCl (adr (S0 G ca kK kV fm h0 u h1 v h2) 59, (cO 0 (fsX1 (S0 G ca kK kV fm h0 u h1 v h2) 59)) (w0.1 59) (w0.2.1 59) (w0.2.2 59)) H := hP 59 _ (show (stL ca h0 u h1 v h2)[59]? = some (adr (S0 G ca kK kV fm h0 u h1 v h2) 59, (cO 0 (fsX1 (S0 G ca kK kV fm h0 u h1 v h2) 59)) (w0.1 59) (w0.2.1 59) (w0.2.2 59)) from rfl)
set_option maxRecDepth 100000 in
theorem st_c60 (hP : va_P G vwCl (stL ca h0 u h1 v h2) H) : va_at G vwCl (adr (S0 G ca kK kV fm h0 u h1 v h2) 60, (cI (S0 G ca kK kV fm h0 u h1 v h2) 8) (w0.1 60) (w0.2.1 60) (w0.2.2 60)) H := hP 60 _ (show (stL ca h0 u h1 v h2)[60]? = some (adr (S0 G ca kK kV fm h0 u h1 v h2) 60, (cI (S0 G ca kK kV fm h0 u h1 v h2) 8) (w0.1 60) (w0.2.1 60) (w0.2.2 60)) from rfl)
set_option maxRecDepth 100000 in
theorem st_c61 (hP : va_P G vwCl (stL ca h0 u h1 v h2) H) : va_at G vwCl (adr (S0 G ca kK kV fm h0 u h1 v h2) 61, (cB (S0 G ca kK kV fm h0 u h1 v h2) 3 82) (w0.1 61) (w0.2.1 61) (w0.2.2 61)) H := st_B (hP 61 _ (show (stL ca h0 u h1 v h2)[61]? = some (adr (S0 G ca kK kV fm h0 u h1 v h2) 61, .inl (ca 3, 3, .inr (.inr (.inr (.inr (va_up (va_up (va_up (fun _ => none) (0 : Int32).toNatClampNeg (some (u 81))) (1 : Int32).toNatClampNeg (some (u 83))) (2 : Int32).toNatClampNeg (some (u 85)))))))) from rfl)) st_f61
set_option maxRecDepth 100000 in
theorem st_c62 (hP : va_P G vwCl (stL ca h0 u h1 v h2) H) : va_at G vwCl (adr (S0 G ca kK kV fm h0 u h1 v h2) 62, (cO 5 (fsX6 (S0 G ca kK kV fm h0 u h1 v h2) 62)) (w0.1 62) (w0.2.1 62) (w0.2.2 62)) H := hP 62 _ (show (stL ca h0 u h1 v h2)[62]? = some (adr (S0 G ca kK kV fm h0 u h1 v h2) 62, (cO 5 (fsX6 (S0 G ca kK kV fm h0 u h1 v h2) 62)) (w0.1 62) (w0.2.1 62) (w0.2.2 62)) from rfl)
set_option maxRecDepth 100000 in
theorem st_c63 (hP : va_P G vwCl (stL ca h0 u h1 v h2) H) : va_at G vwCl (adr (S0 G ca kK kV fm h0 u h1 v h2) 63, (cB (S0 G ca kK kV fm h0 u h1 v h2) 5 66) (w0.1 63) (w0.2.1 63) (w0.2.2 63)) H := st_B (hP 63 _ (show (stL ca h0 u h1 v h2)[63]? = some (adr (S0 G ca kK kV fm h0 u h1 v h2) 63, .inl (ca 3, 5, .inr (.inr (.inr (.inr (va_up (va_up (va_up (va_up (va_up (fun _ => none) (0 : Int32).toNatClampNeg (some (u 65))) (1 : Int32).toNatClampNeg (some (u 67))) (2 : Int32).toNatClampNeg (some (u 69))) (3 : Int32).toNatClampNeg (some (u 71))) (4 : Int32).toNatClampNeg (some (u 73)))))))) from rfl)) st_f63
set_option maxRecDepth 100000 in
theorem st_c64 (hP : va_P G vwCl (stL ca h0 u h1 v h2) H) : va_at G vwCl (adr (S0 G ca kK kV fm h0 u h1 v h2) 64, (cI (S0 G ca kK kV fm h0 u h1 v h2) 4) (w0.1 64) (w0.2.1 64) (w0.2.2 64)) H := hP 64 _ (show (stL ca h0 u h1 v h2)[64]? = some (adr (S0 G ca kK kV fm h0 u h1 v h2) 64, (cI (S0 G ca kK kV fm h0 u h1 v h2) 4) (w0.1 64) (w0.2.1 64) (w0.2.2 64)) from rfl)
set_option maxRecDepth 100000 in
theorem st_c65 (hP : va_P G vwCl (stL ca h0 u h1 v h2) H) : va_at G vwCl (adr (S0 G ca kK kV fm h0 u h1 v h2) 65, (cI (S0 G ca kK kV fm h0 u h1 v h2) 4) (w0.1 65) (w0.2.1 65) (w0.2.2 65)) H := hP 65 _ (show (stL ca h0 u h1 v h2)[65]? = some (adr (S0 G ca kK kV fm h0 u h1 v h2) 65, (cI (S0 G ca kK kV fm h0 u h1 v h2) 4) (w0.1 65) (w0.2.1 65) (w0.2.2 65)) from rfl)
set_option maxRecDepth 100000 in
theorem st_c66 (hP : va_P G vwCl (stL ca h0 u h1 v h2) H) : va_at G vwCl (adr (S0 G ca kK kV fm h0 u h1 v h2) 66, (cO 0 (fsX1 (S0 G ca kK kV fm h0 u h1 v h2) 66)) (w0.1 66) (w0.2.1 66) (w0.2.2 66)) H := hP 66 _ (show (stL ca h0 u h1 v h2)[66]? = some (adr (S0 G ca kK kV fm h0 u h1 v h2) 66, (cO 0 (fsX1 (S0 G ca kK kV fm h0 u h1 v h2) 66)) (w0.1 66) (w0.2.1 66) (w0.2.2 66)) from rfl)
set_option maxRecDepth 100000 in
theorem st_c67 (hP : va_P G vwCl (stL ca h0 u h1 v h2) H) : va_at G vwCl (adr (S0 G ca kK kV fm h0 u h1 v h2) 67, (cI (S0 G ca kK kV fm h0 u h1 v h2) 8) (w0.1 67) (w0.2.1 67) (w0.2.2 67)) H := hP 67 _ (show (stL ca h0 u h1 v h2)[67]? = some (adr (S0 G ca kK kV fm h0 u h1 v h2) 67, (cI (S0 G ca kK kV fm h0 u h1 v h2) 8) (w0.1 67) (w0.2.1 67) (w0.2.2 67)) from rfl)
set_option maxRecDepth 100000 in
theorem st_c68 (hP : va_P G vwCl (stL ca h0 u h1 v h2) H) : va_at G vwCl (adr (S0 G ca kK kV fm h0 u h1 v h2) 68, (cO 0 (fsX1 (S0 G ca kK kV fm h0 u h1 v h2) 68)) (w0.1 68) (w0.2.1 68) (w0.2.2 68)) H := hP 68 _ (show (stL ca h0 u h1 v h2)[68]? = some (adr (S0 G ca kK kV fm h0 u h1 v h2) 68, (cO 0 (fsX1 (S0 G ca kK kV fm h0 u h1 v h2) 68)) (w0.1 68) (w0.2.1 68) (w0.2.2 68)) from rfl)
set_option maxRecDepth 100000 in
theorem st_c69 (hP : va_P G vwCl (stL ca h0 u h1 v h2) H) : va_at G vwCl (adr (S0 G ca kK kV fm h0 u h1 v h2) 69, (cI (S0 G ca kK kV fm h0 u h1 v h2) 8) (w0.1 69) (w0.2.1 69) (w0.2.2 69)) H := hP 69 _ (show (stL ca h0 u h1 v h2)[69]? = some (adr (S0 G ca kK kV fm h0 u h1 v h2) 69, (cI (S0 G ca kK kV fm h0 u h1 v h2) 8) (w0.1 69) (w0.2.1 69) (w0.2.2 69)) from rfl)
set_option maxRecDepth 100000 in
theorem st_c70 (hP : va_P G vwCl (stL ca h0 u h1 v h2) H) : va_at G vwCl (adr (S0 G ca kK kV fm h0 u h1 v h2) 70, (cO 0 (fsX1 (S0 G ca kK kV fm h0 u h1 v h2) 70)) (w0.1 70) (w0.2.1 70) (w0.2.2 70)) H := hP 70 _ (show (stL ca h0 u h1 v h2)[70]? = some (adr (S0 G ca kK kV fm h0 u h1 v h2) 70, (cO 0 (fsX1 (S0 G ca kK kV fm h0 u h1 v h2) 70)) (w0.1 70) (w0.2.1 70) (w0.2.2 70)) from rfl)
set_option maxRecDepth 100000 in
theorem st_c71 (hP : va_P G vwCl (stL ca h0 u h1 v h2) H) : va_at G vwCl (adr (S0 G ca kK kV fm h0 u h1 v h2) 71, (cI (S0 G ca kK kV fm h0 u h1 v h2) 8) (w0.1 71) (w0.2.1 71) (w0.2.2 71)) H := hP 71 _ (show (stL ca h0 u h1 v h2)[71]? = some (adr (S0 G ca kK kV fm h0 u h1 v h2) 71, (cI (S0 G ca kK kV fm h0 u h1 v h2) 8) (w0.1 71) (w0.2.1 71) (w0.2.2 71)) from rfl)
set_option maxRecDepth 100000 in
theorem st_c72 (hP : va_P G vwCl (stL ca h0 u h1 v h2) H) : va_at G vwCl (adr (S0 G ca kK kV fm h0 u h1 v h2) 72, (cO 0 (fsX1 (S0 G ca kK kV fm h0 u h1 v h2) 72)) (w0.1 72) (w0.2.1 72) (w0.2.2 72)) H := hP 72 _ (show (stL ca h0 u h1 v h2)[72]? = some (adr (S0 G ca kK kV fm h0 u h1 v h2) 72, (cO 0 (fsX1 (S0 G ca kK kV fm h0 u h1 v h2) 72)) (w0.1 72) (w0.2.1 72) (w0.2.2 72)) from rfl)
set_option maxRecDepth 100000 in
theorem st_c73 (hP : va_P G vwCl (stL ca h0 u h1 v h2) H) : va_at G vwCl (adr (S0 G ca kK kV fm h0 u h1 v h2) 73, (cI (S0 G ca kK kV fm h0 u h1 v h2) 8) (w0.1 73) (w0.2.1 73) (w0.2.2 73)) H := hP 73 _ (show (stL ca h0 u h1 v h2)[73]? = some (adr (S0 G ca kK kV fm h0 u h1 v h2) 73, (cI (S0 G ca kK kV fm h0 u h1 v h2) 8) (w0.1 73) (w0.2.1 73) (w0.2.2 73)) from rfl)
set_option maxRecDepth 100000 in
theorem st_c74 (hP : va_P G vwCl (stL ca h0 u h1 v h2) H) : va_at G vwCl (adr (S0 G ca kK kV fm h0 u h1 v h2) 74, (cO 0 (fsX1 (S0 G ca kK kV fm h0 u h1 v h2) 74)) (w0.1 74) (w0.2.1 74) (w0.2.2 74)) H := hP 74 _ (show (stL ca h0 u h1 v h2)[74]? = some (adr (S0 G ca kK kV fm h0 u h1 v h2) 74, (cO 0 (fsX1 (S0 G ca kK kV fm h0 u h1 v h2) 74)) (w0.1 74) (w0.2.1 74) (w0.2.2 74)) from rfl)
set_option maxRecDepth 100000 in
theorem st_c75 (hP : va_P G vwCl (stL ca h0 u h1 v h2) H) : va_at G vwCl (adr (S0 G ca kK kV fm h0 u h1 v h2) 75, (cI (S0 G ca kK kV fm h0 u h1 v h2) 8) (w0.1 75) (w0.2.1 75) (w0.2.2 75)) H := hP 75 _ (show (stL ca h0 u h1 v h2)[75]? = some (adr (S0 G ca kK kV fm h0 u h1 v h2) 75, (cI (S0 G ca kK kV fm h0 u h1 v h2) 8) (w0.1 75) (w0.2.1 75) (w0.2.2 75)) from rfl)
set_option maxRecDepth 100000 in
theorem st_c76 (hP : va_P G vwCl (stL ca h0 u h1 v h2) H) : va_at G vwCl (adr (S0 G ca kK kV fm h0 u h1 v h2) 76, (cO 2 (fsX3 (S0 G ca kK kV fm h0 u h1 v h2) 76)) (w0.1 76) (w0.2.1 76) (w0.2.2 76)) H := hP 76 _ (show (stL ca h0 u h1 v h2)[76]? = some (adr (S0 G ca kK kV fm h0 u h1 v h2) 76, (cO 2 (fsX3 (S0 G ca kK kV fm h0 u h1 v h2) 76)) (w0.1 76) (w0.2.1 76) (w0.2.2 76)) from rfl)
set_option maxRecDepth 100000 in
theorem st_c77 (hP : va_P G vwCl (stL ca h0 u h1 v h2) H) : va_at G vwCl (adr (S0 G ca kK kV fm h0 u h1 v h2) 77, (cI (S0 G ca kK kV fm h0 u h1 v h2) 12) (w0.1 77) (w0.2.1 77) (w0.2.2 77)) H := hP 77 _ (show (stL ca h0 u h1 v h2)[77]? = some (adr (S0 G ca kK kV fm h0 u h1 v h2) 77, (cI (S0 G ca kK kV fm h0 u h1 v h2) 12) (w0.1 77) (w0.2.1 77) (w0.2.2 77)) from rfl)
set_option maxRecDepth 100000 in
theorem st_c78 (hP : va_P G vwCl (stL ca h0 u h1 v h2) H) : va_at G vwCl (adr (S0 G ca kK kV fm h0 u h1 v h2) 78, (cI (S0 G ca kK kV fm h0 u h1 v h2) 12) (w0.1 78) (w0.2.1 78) (w0.2.2 78)) H := hP 78 _ (show (stL ca h0 u h1 v h2)[78]? = some (adr (S0 G ca kK kV fm h0 u h1 v h2) 78, (cI (S0 G ca kK kV fm h0 u h1 v h2) 12) (w0.1 78) (w0.2.1 78) (w0.2.2 78)) from rfl)
set_option maxRecDepth 100000 in
theorem st_c79 (hP : va_P G vwCl (stL ca h0 u h1 v h2) H) : va_at G vwCl (adr (S0 G ca kK kV fm h0 u h1 v h2) 79, (cI (S0 G ca kK kV fm h0 u h1 v h2) 12) (w0.1 79) (w0.2.1 79) (w0.2.2 79)) H := hP 79 _ (show (stL ca h0 u h1 v h2)[79]? = some (adr (S0 G ca kK kV fm h0 u h1 v h2) 79, (cI (S0 G ca kK kV fm h0 u h1 v h2) 12) (w0.1 79) (w0.2.1 79) (w0.2.2 79)) from rfl)
set_option maxRecDepth 100000 in
theorem st_c80 (hP : va_P G vwCl (stL ca h0 u h1 v h2) H) : va_at G vwCl (adr (S0 G ca kK kV fm h0 u h1 v h2) 80, (cI (S0 G ca kK kV fm h0 u h1 v h2) 48) (w0.1 80) (w0.2.1 80) (w0.2.2 80)) H := hP 80 _ (show (stL ca h0 u h1 v h2)[80]? = some (adr (S0 G ca kK kV fm h0 u h1 v h2) 80, (cI (S0 G ca kK kV fm h0 u h1 v h2) 48) (w0.1 80) (w0.2.1 80) (w0.2.2 80)) from rfl)
set_option maxRecDepth 100000 in
theorem st_c81 (hP : va_P G vwCl (stL ca h0 u h1 v h2) H) : va_at G vwCl (adr (S0 G ca kK kV fm h0 u h1 v h2) 81, (cI (S0 G ca kK kV fm h0 u h1 v h2) 48) (w0.1 81) (w0.2.1 81) (w0.2.2 81)) H := hP 81 _ (show (stL ca h0 u h1 v h2)[81]? = some (adr (S0 G ca kK kV fm h0 u h1 v h2) 81, (cI (S0 G ca kK kV fm h0 u h1 v h2) 48) (w0.1 81) (w0.2.1 81) (w0.2.2 81)) from rfl)
set_option maxRecDepth 100000 in
theorem st_c82 (hP : va_P G vwCl (stL ca h0 u h1 v h2) H) : va_at G vwCl (adr (S0 G ca kK kV fm h0 u h1 v h2) 82, (cO 0 (fsX1 (S0 G ca kK kV fm h0 u h1 v h2) 82)) (w0.1 82) (w0.2.1 82) (w0.2.2 82)) H := hP 82 _ (show (stL ca h0 u h1 v h2)[82]? = some (adr (S0 G ca kK kV fm h0 u h1 v h2) 82, (cO 0 (fsX1 (S0 G ca kK kV fm h0 u h1 v h2) 82)) (w0.1 82) (w0.2.1 82) (w0.2.2 82)) from rfl)
set_option maxRecDepth 100000 in
theorem st_c83 (hP : va_P G vwCl (stL ca h0 u h1 v h2) H) : va_at G vwCl (adr (S0 G ca kK kV fm h0 u h1 v h2) 83, (cI (S0 G ca kK kV fm h0 u h1 v h2) 8) (w0.1 83) (w0.2.1 83) (w0.2.2 83)) H := hP 83 _ (show (stL ca h0 u h1 v h2)[83]? = some (adr (S0 G ca kK kV fm h0 u h1 v h2) 83, (cI (S0 G ca kK kV fm h0 u h1 v h2) 8) (w0.1 83) (w0.2.1 83) (w0.2.2 83)) from rfl)
set_option maxRecDepth 100000 in
theorem st_c84 (hP : va_P G vwCl (stL ca h0 u h1 v h2) H) : va_at G vwCl (adr (S0 G ca kK kV fm h0 u h1 v h2) 84, (cO 0 (fsX1 (S0 G ca kK kV fm h0 u h1 v h2) 84)) (w0.1 84) (w0.2.1 84) (w0.2.2 84)) H := hP 84 _ (show (stL ca h0 u h1 v h2)[84]? = some (adr (S0 G ca kK kV fm h0 u h1 v h2) 84, (cO 0 (fsX1 (S0 G ca kK kV fm h0 u h1 v h2) 84)) (w0.1 84) (w0.2.1 84) (w0.2.2 84)) from rfl)
set_option maxRecDepth 100000 in
theorem st_c85 (hP : va_P G vwCl (stL ca h0 u h1 v h2) H) : va_at G vwCl (adr (S0 G ca kK kV fm h0 u h1 v h2) 85, (cI (S0 G ca kK kV fm h0 u h1 v h2) 8) (w0.1 85) (w0.2.1 85) (w0.2.2 85)) H := hP 85 _ (show (stL ca h0 u h1 v h2)[85]? = some (adr (S0 G ca kK kV fm h0 u h1 v h2) 85, (cI (S0 G ca kK kV fm h0 u h1 v h2) 8) (w0.1 85) (w0.2.1 85) (w0.2.2 85)) from rfl)
set_option maxRecDepth 100000 in
theorem st_c86 (hP : va_P G vwCl (stL ca h0 u h1 v h2) H) : va_at G vwCl (adr (S0 G ca kK kV fm h0 u h1 v h2) 86, (cO 0 (fsX1 (S0 G ca kK kV fm h0 u h1 v h2) 86)) (w0.1 86) (w0.2.1 86) (w0.2.2 86)) H := hP 86 _ (show (stL ca h0 u h1 v h2)[86]? = some (adr (S0 G ca kK kV fm h0 u h1 v h2) 86, (cO 0 (fsX1 (S0 G ca kK kV fm h0 u h1 v h2) 86)) (w0.1 86) (w0.2.1 86) (w0.2.2 86)) from rfl)
set_option maxRecDepth 100000 in
theorem st_c87 (hP : va_P G vwCl (stL ca h0 u h1 v h2) H) : va_at G vwCl (adr (S0 G ca kK kV fm h0 u h1 v h2) 87, (cI (S0 G ca kK kV fm h0 u h1 v h2) 8) (w0.1 87) (w0.2.1 87) (w0.2.2 87)) H := hP 87 _ (show (stL ca h0 u h1 v h2)[87]? = some (adr (S0 G ca kK kV fm h0 u h1 v h2) 87, (cI (S0 G ca kK kV fm h0 u h1 v h2) 8) (w0.1 87) (w0.2.1 87) (w0.2.2 87)) from rfl)
set_option maxRecDepth 100000 in
theorem st_c88 (hP : va_P G vwCl (stL ca h0 u h1 v h2) H) : va_at G vwCl (adr (S0 G ca kK kV fm h0 u h1 v h2) 88, (cO 10 (fsX11 (S0 G ca kK kV fm h0 u h1 v h2) 88)) (w0.1 88) (w0.2.1 88) (w0.2.2 88)) H := hP 88 _ (show (stL ca h0 u h1 v h2)[88]? = some (adr (S0 G ca kK kV fm h0 u h1 v h2) 88, (cO 10 (fsX11 (S0 G ca kK kV fm h0 u h1 v h2) 88)) (w0.1 88) (w0.2.1 88) (w0.2.2 88)) from rfl)
set_option maxRecDepth 100000 in
theorem st_c89 (hP : va_P G vwCl (stL ca h0 u h1 v h2) H) : va_at G vwCl (adr (S0 G ca kK kV fm h0 u h1 v h2) 89, (cJ (S0 G ca kK kV fm h0 u h1 v h2) 24) (w0.1 89) (w0.2.1 89) (w0.2.2 89)) H := hP 89 _ (show (stL ca h0 u h1 v h2)[89]? = some (adr (S0 G ca kK kV fm h0 u h1 v h2) 89, (cJ (S0 G ca kK kV fm h0 u h1 v h2) 24) (w0.1 89) (w0.2.1 89) (w0.2.2 89)) from rfl)
set_option maxRecDepth 100000 in
theorem st_c90 (hP : va_P G vwCl (stL ca h0 u h1 v h2) H) : va_at G vwCl (adr (S0 G ca kK kV fm h0 u h1 v h2) 90, (cI (S0 G ca kK kV fm h0 u h1 v h2) 8) (w0.1 90) (w0.2.1 90) (w0.2.2 90)) H := hP 90 _ (show (stL ca h0 u h1 v h2)[90]? = some (adr (S0 G ca kK kV fm h0 u h1 v h2) 90, (cI (S0 G ca kK kV fm h0 u h1 v h2) 8) (w0.1 90) (w0.2.1 90) (w0.2.2 90)) from rfl)
set_option maxRecDepth 100000 in
theorem st_c91 (hP : va_P G vwCl (stL ca h0 u h1 v h2) H) : va_at G vwCl (adr (S0 G ca kK kV fm h0 u h1 v h2) 91, (cI (S0 G ca kK kV fm h0 u h1 v h2) 8) (w0.1 91) (w0.2.1 91) (w0.2.2 91)) H := hP 91 _ (show (stL ca h0 u h1 v h2)[91]? = some (adr (S0 G ca kK kV fm h0 u h1 v h2) 91, (cI (S0 G ca kK kV fm h0 u h1 v h2) 8) (w0.1 91) (w0.2.1 91) (w0.2.2 91)) from rfl)
set_option maxRecDepth 100000 in
theorem st_c92 (hP : va_P G vwCl (stL ca h0 u h1 v h2) H) : va_at G vwCl (adr (S0 G ca kK kV fm h0 u h1 v h2) 92, (cI (S0 G ca kK kV fm h0 u h1 v h2) 8) (w0.1 92) (w0.2.1 92) (w0.2.2 92)) H := hP 92 _ (show (stL ca h0 u h1 v h2)[92]? = some (adr (S0 G ca kK kV fm h0 u h1 v h2) 92, (cI (S0 G ca kK kV fm h0 u h1 v h2) 8) (w0.1 92) (w0.2.1 92) (w0.2.2 92)) from rfl)
set_option maxRecDepth 100000 in
theorem st_c93 (hP : va_P G vwCl (stL ca h0 u h1 v h2) H) : va_at G vwCl (adr (S0 G ca kK kV fm h0 u h1 v h2) 93, (cI (S0 G ca kK kV fm h0 u h1 v h2) 8) (w0.1 93) (w0.2.1 93) (w0.2.2 93)) H := hP 93 _ (show (stL ca h0 u h1 v h2)[93]? = some (adr (S0 G ca kK kV fm h0 u h1 v h2) 93, (cI (S0 G ca kK kV fm h0 u h1 v h2) 8) (w0.1 93) (w0.2.1 93) (w0.2.2 93)) from rfl)
set_option maxRecDepth 100000 in
theorem st_c94 (hP : va_P G vwCl (stL ca h0 u h1 v h2) H) : va_at G vwCl (adr (S0 G ca kK kV fm h0 u h1 v h2) 94, (cI (S0 G ca kK kV fm h0 u h1 v h2) 3) (w0.1 94) (w0.2.1 94) (w0.2.2 94)) H := hP 94 _ (show (stL ca h0 u h1 v h2)[94]? = some (adr (S0 G ca kK kV fm h0 u h1 v h2) 94, (cI (S0 G ca kK kV fm h0 u h1 v h2) 3) (w0.1 94) (w0.2.1 94) (w0.2.2 94)) from rfl)
set_option maxRecDepth 100000 in
theorem st_c95 (hP : va_P G vwCl (stL ca h0 u h1 v h2) H) : va_at G vwCl (adr (S0 G ca kK kV fm h0 u h1 v h2) 95, (cI (S0 G ca kK kV fm h0 u h1 v h2) 16) (w0.1 95) (w0.2.1 95) (w0.2.2 95)) H := hP 95 _ (show (stL ca h0 u h1 v h2)[95]? = some (adr (S0 G ca kK kV fm h0 u h1 v h2) 95, (cI (S0 G ca kK kV fm h0 u h1 v h2) 16) (w0.1 95) (w0.2.1 95) (w0.2.2 95)) from rfl)
set_option maxRecDepth 100000 in
theorem st_c96 (hP : va_P G vwCl (stL ca h0 u h1 v h2) H) : va_at G vwCl (adr (S0 G ca kK kV fm h0 u h1 v h2) 96, (cI (S0 G ca kK kV fm h0 u h1 v h2) 16) (w0.1 96) (w0.2.1 96) (w0.2.2 96)) H := hP 96 _ (show (stL ca h0 u h1 v h2)[96]? = some (adr (S0 G ca kK kV fm h0 u h1 v h2) 96, (cI (S0 G ca kK kV fm h0 u h1 v h2) 16) (w0.1 96) (w0.2.1 96) (w0.2.2 96)) from rfl)
set_option maxRecDepth 100000 in
theorem st_c97 (hP : va_P G vwCl (stL ca h0 u h1 v h2) H) : va_at G vwCl (adr (S0 G ca kK kV fm h0 u h1 v h2) 97, (cI (S0 G ca kK kV fm h0 u h1 v h2) 80) (w0.1 97) (w0.2.1 97) (w0.2.2 97)) H := hP 97 _ (show (stL ca h0 u h1 v h2)[97]? = some (adr (S0 G ca kK kV fm h0 u h1 v h2) 97, (cI (S0 G ca kK kV fm h0 u h1 v h2) 80) (w0.1 97) (w0.2.1 97) (w0.2.2 97)) from rfl)
set_option maxRecDepth 100000 in
theorem st_c98 (hP : va_P G vwCl (stL ca h0 u h1 v h2) H) : va_at G vwCl (adr (S0 G ca kK kV fm h0 u h1 v h2) 98, (cI (S0 G ca kK kV fm h0 u h1 v h2) 16) (w0.1 98) (w0.2.1 98) (w0.2.2 98)) H := hP 98 _ (show (stL ca h0 u h1 v h2)[98]? = some (adr (S0 G ca kK kV fm h0 u h1 v h2) 98, (cI (S0 G ca kK kV fm h0 u h1 v h2) 16) (w0.1 98) (w0.2.1 98) (w0.2.2 98)) from rfl)
set_option maxRecDepth 100000 in
theorem st_c99 (hP : va_P G vwCl (stL ca h0 u h1 v h2) H) : va_at G vwCl (adr (S0 G ca kK kV fm h0 u h1 v h2) 99, (cI (S0 G ca kK kV fm h0 u h1 v h2) 80) (w0.1 99) (w0.2.1 99) (w0.2.2 99)) H := hP 99 _ (show (stL ca h0 u h1 v h2)[99]? = some (adr (S0 G ca kK kV fm h0 u h1 v h2) 99, (cI (S0 G ca kK kV fm h0 u h1 v h2) 80) (w0.1 99) (w0.2.1 99) (w0.2.2 99)) from rfl)
set_option maxRecDepth 100000 in
theorem st_c100 (hP : va_P G vwCl (stL ca h0 u h1 v h2) H) : va_at G vwCl (adr (S0 G ca kK kV fm h0 u h1 v h2) 100, (cI (S0 G ca kK kV fm h0 u h1 v h2) 80) (w0.1 100) (w0.2.1 100) (w0.2.2 100)) H := hP 100 _ (show (stL ca h0 u h1 v h2)[100]? = some (adr (S0 G ca kK kV fm h0 u h1 v h2) 100, (cI (S0 G ca kK kV fm h0 u h1 v h2) 80) (w0.1 100) (w0.2.1 100) (w0.2.2 100)) from rfl)
set_option maxRecDepth 100000 in
theorem st_c101 (hP : va_P G vwCl (stL ca h0 u h1 v h2) H) : va_at G vwCl (adr (S0 G ca kK kV fm h0 u h1 v h2) 101, (cI (S0 G ca kK kV fm h0 u h1 v h2) 80) (w0.1 101) (w0.2.1 101) (w0.2.2 101)) H := hP 101 _ (show (stL ca h0 u h1 v h2)[101]? = some (adr (S0 G ca kK kV fm h0 u h1 v h2) 101, (cI (S0 G ca kK kV fm h0 u h1 v h2) 80) (w0.1 101) (w0.2.1 101) (w0.2.2 101)) from rfl)
set_option maxRecDepth 100000 in
theorem st_c102 (hP : va_P G vwCl (stL ca h0 u h1 v h2) H) : va_at G vwCl (adr (S0 G ca kK kV fm h0 u h1 v h2) 102, (cI (S0 G ca kK kV fm h0 u h1 v h2) 7) (w0.1 102) (w0.2.1 102) (w0.2.2 102)) H := hP 102 _ (show (stL ca h0 u h1 v h2)[102]? = some (adr (S0 G ca kK kV fm h0 u h1 v h2) 102, (cI (S0 G ca kK kV fm h0 u h1 v h2) 7) (w0.1 102) (w0.2.1 102) (w0.2.2 102)) from rfl)
set_option maxRecDepth 100000 in
theorem st_c103 (hP : va_P G vwCl (stL ca h0 u h1 v h2) H) : va_at G vwCl (adr (S0 G ca kK kV fm h0 u h1 v h2) 103, (cI (S0 G ca kK kV fm h0 u h1 v h2) 256) (w0.1 103) (w0.2.1 103) (w0.2.2 103)) H := hP 103 _ (show (stL ca h0 u h1 v h2)[103]? = some (adr (S0 G ca kK kV fm h0 u h1 v h2) 103, (cI (S0 G ca kK kV fm h0 u h1 v h2) 256) (w0.1 103) (w0.2.1 103) (w0.2.2 103)) from rfl)
set_option maxRecDepth 100000 in
theorem st_c104 (hP : va_P G vwCl (stL ca h0 u h1 v h2) H) : va_at G vwCl (adr (S0 G ca kK kV fm h0 u h1 v h2) 104, (cI (S0 G ca kK kV fm h0 u h1 v h2) 60) (w0.1 104) (w0.2.1 104) (w0.2.2 104)) H := hP 104 _ (show (stL ca h0 u h1 v h2)[104]? = some (adr (S0 G ca kK kV fm h0 u h1 v h2) 104, (cI (S0 G ca kK kV fm h0 u h1 v h2) 60) (w0.1 104) (w0.2.1 104) (w0.2.2 104)) from rfl)
set_option maxRecDepth 100000 in
theorem st_c105 (hP : va_P G vwCl (stL ca h0 u h1 v h2) H) : va_at G vwCl (adr (S0 G ca kK kV fm h0 u h1 v h2) 105, (cI (S0 G ca kK kV fm h0 u h1 v h2) 60) (w0.1 105) (w0.2.1 105) (w0.2.2 105)) H := hP 105 _ (show (stL ca h0 u h1 v h2)[105]? = some (adr (S0 G ca kK kV fm h0 u h1 v h2) 105, (cI (S0 G ca kK kV fm h0 u h1 v h2) 60) (w0.1 105) (w0.2.1 105) (w0.2.2 105)) from rfl)
set_option maxRecDepth 100000 in
theorem st_c106 (hP : va_P G vwCl (stL ca h0 u h1 v h2) H) : va_at G vwCl (adr (S0 G ca kK kV fm h0 u h1 v h2) 106, (cI (S0 G ca kK kV fm h0 u h1 v h2) 60) (w0.1 106) (w0.2.1 106) (w0.2.2 106)) H := hP 106 _ (show (stL ca h0 u h1 v h2)[106]? = some (adr (S0 G ca kK kV fm h0 u h1 v h2) 106, (cI (S0 G ca kK kV fm h0 u h1 v h2) 60) (w0.1 106) (w0.2.1 106) (w0.2.2 106)) from rfl)
set_option maxRecDepth 100000 in
theorem st_c107 (hP : va_P G vwCl (stL ca h0 u h1 v h2) H) : va_at G vwCl (adr (S0 G ca kK kV fm h0 u h1 v h2) 107, (cI (S0 G ca kK kV fm h0 u h1 v h2) 4) (w0.1 107) (w0.2.1 107) (w0.2.2 107)) H := hP 107 _ (show (stL ca h0 u h1 v h2)[107]? = some (adr (S0 G ca kK kV fm h0 u h1 v h2) 107, (cI (S0 G ca kK kV fm h0 u h1 v h2) 4) (w0.1 107) (w0.2.1 107) (w0.2.2 107)) from rfl)
set_option maxRecDepth 100000 in
theorem st_c108 (hP : va_P G vwCl (stL ca h0 u h1 v h2) H) : va_at G vwCl (adr (S0 G ca kK kV fm h0 u h1 v h2) 108, (cI (S0 G ca kK kV fm h0 u h1 v h2) 4) (w0.1 108) (w0.2.1 108) (w0.2.2 108)) H := hP 108 _ (show (stL ca h0 u h1 v h2)[108]? = some (adr (S0 G ca kK kV fm h0 u h1 v h2) 108, (cI (S0 G ca kK kV fm h0 u h1 v h2) 4) (w0.1 108) (w0.2.1 108) (w0.2.2 108)) from rfl)
set_option maxRecDepth 100000 in
theorem st_c109 (hP : va_P G vwCl (stL ca h0 u h1 v h2) H) : va_at G vwCl (adr (S0 G ca kK kV fm h0 u h1 v h2) 109, (cI (S0 G ca kK kV fm h0 u h1 v h2) 16) (w0.1 109) (w0.2.1 109) (w0.2.2 109)) H := hP 109 _ (show (stL ca h0 u h1 v h2)[109]? = some (adr (S0 G ca kK kV fm h0 u h1 v h2) 109, (cI (S0 G ca kK kV fm h0 u h1 v h2) 16) (w0.1 109) (w0.2.1 109) (w0.2.2 109)) from rfl)
set_option maxRecDepth 100000 in
theorem st_c110 (hP : va_P G vwCl (stL ca h0 u h1 v h2) H) : va_at G vwCl (adr (S0 G ca kK kV fm h0 u h1 v h2) 110, (cI (S0 G ca kK kV fm h0 u h1 v h2) 80) (w0.1 110) (w0.2.1 110) (w0.2.2 110)) H := hP 110 _ (show (stL ca h0 u h1 v h2)[110]? = some (adr (S0 G ca kK kV fm h0 u h1 v h2) 110, (cI (S0 G ca kK kV fm h0 u h1 v h2) 80) (w0.1 110) (w0.2.1 110) (w0.2.2 110)) from rfl)
set_option maxRecDepth 100000 in
theorem st_c111 (hP : va_P G vwCl (stL ca h0 u h1 v h2) H) : va_at G vwCl (adr (S0 G ca kK kV fm h0 u h1 v h2) 111, (cI (S0 G ca kK kV fm h0 u h1 v h2) 12) (w0.1 111) (w0.2.1 111) (w0.2.2 111)) H := hP 111 _ (show (stL ca h0 u h1 v h2)[111]? = some (adr (S0 G ca kK kV fm h0 u h1 v h2) 111, (cI (S0 G ca kK kV fm h0 u h1 v h2) 12) (w0.1 111) (w0.2.1 111) (w0.2.2 111)) from rfl)
set_option maxRecDepth 100000 in
theorem st_c112 (hP : va_P G vwCl (stL ca h0 u h1 v h2) H) : va_at G vwCl (adr (S0 G ca kK kV fm h0 u h1 v h2) 112, (cI (S0 G ca kK kV fm h0 u h1 v h2) 12) (w0.1 112) (w0.2.1 112) (w0.2.2 112)) H := hP 112 _ (show (stL ca h0 u h1 v h2)[112]? = some (adr (S0 G ca kK kV fm h0 u h1 v h2) 112, (cI (S0 G ca kK kV fm h0 u h1 v h2) 12) (w0.1 112) (w0.2.1 112) (w0.2.2 112)) from rfl)
set_option maxRecDepth 100000 in
theorem st_c113 (hP : va_P G vwCl (stL ca h0 u h1 v h2) H) : va_at G vwCl (adr (S0 G ca kK kV fm h0 u h1 v h2) 113, (cI (S0 G ca kK kV fm h0 u h1 v h2) 12) (w0.1 113) (w0.2.1 113) (w0.2.2 113)) H := hP 113 _ (show (stL ca h0 u h1 v h2)[113]? = some (adr (S0 G ca kK kV fm h0 u h1 v h2) 113, (cI (S0 G ca kK kV fm h0 u h1 v h2) 12) (w0.1 113) (w0.2.1 113) (w0.2.2 113)) from rfl)
set_option maxRecDepth 100000 in
theorem st_c114 (hP : va_P G vwCl (stL ca h0 u h1 v h2) H) : va_at G vwCl (adr (S0 G ca kK kV fm h0 u h1 v h2) 114, (cI (S0 G ca kK kV fm h0 u h1 v h2) 48) (w0.1 114) (w0.2.1 114) (w0.2.2 114)) H := hP 114 _ (show (stL ca h0 u h1 v h2)[114]? = some (adr (S0 G ca kK kV fm h0 u h1 v h2) 114, (cI (S0 G ca kK kV fm h0 u h1 v h2) 48) (w0.1 114) (w0.2.1 114) (w0.2.2 114)) from rfl)
set_option maxRecDepth 100000 in
theorem st_c115 (hP : va_P G vwCl (stL ca h0 u h1 v h2) H) : va_at G vwCl (adr (S0 G ca kK kV fm h0 u h1 v h2) 115, (cZ (S0 G ca kK kV fm h0 u h1 v h2) 48) (w0.1 115) (w0.2.1 115) (w0.2.2 115)) H := hP 115 _ (show (stL ca h0 u h1 v h2)[115]? = some (adr (S0 G ca kK kV fm h0 u h1 v h2) 115, (cZ (S0 G ca kK kV fm h0 u h1 v h2) 48) (w0.1 115) (w0.2.1 115) (w0.2.2 115)) from rfl)
set_option maxRecDepth 100000 in
theorem st_c116 (hP : va_P G vwCl (stL ca h0 u h1 v h2) H) : va_at G vwCl (adr (S0 G ca kK kV fm h0 u h1 v h2) 116, (cZ (S0 G ca kK kV fm h0 u h1 v h2) 3) (w0.1 116) (w0.2.1 116) (w0.2.2 116)) H := hP 116 _ (show (stL ca h0 u h1 v h2)[116]? = some (adr (S0 G ca kK kV fm h0 u h1 v h2) 116, (cZ (S0 G ca kK kV fm h0 u h1 v h2) 3) (w0.1 116) (w0.2.1 116) (w0.2.2 116)) from rfl)
set_option maxRecDepth 100000 in
theorem st_c117 (hP : va_P G vwCl (stL ca h0 u h1 v h2) H) : va_at G vwCl (adr (S0 G ca kK kV fm h0 u h1 v h2) 117, (cI (S0 G ca kK kV fm h0 u h1 v h2) 3) (w0.1 117) (w0.2.1 117) (w0.2.2 117)) H := hP 117 _ (show (stL ca h0 u h1 v h2)[117]? = some (adr (S0 G ca kK kV fm h0 u h1 v h2) 117, (cI (S0 G ca kK kV fm h0 u h1 v h2) 3) (w0.1 117) (w0.2.1 117) (w0.2.2 117)) from rfl)
set_option maxRecDepth 100000 in
theorem st_c118 (hP : va_P G vwCl (stL ca h0 u h1 v h2) H) : va_at G vwCl (adr (S0 G ca kK kV fm h0 u h1 v h2) 118, (cI (S0 G ca kK kV fm h0 u h1 v h2) 48) (w0.1 118) (w0.2.1 118) (w0.2.2 118)) H := hP 118 _ (show (stL ca h0 u h1 v h2)[118]? = some (adr (S0 G ca kK kV fm h0 u h1 v h2) 118, (cI (S0 G ca kK kV fm h0 u h1 v h2) 48) (w0.1 118) (w0.2.1 118) (w0.2.2 118)) from rfl)
set_option maxRecDepth 100000 in
theorem st_c119 (hP : va_P G vwCl (stL ca h0 u h1 v h2) H) : va_at G vwCl (adr (S0 G ca kK kV fm h0 u h1 v h2) 119, (cJ (S0 G ca kK kV fm h0 u h1 v h2) 1) (w0.1 119) (w0.2.1 119) (w0.2.2 119)) H := hP 119 _ (show (stL ca h0 u h1 v h2)[119]? = some (adr (S0 G ca kK kV fm h0 u h1 v h2) 119, (cJ (S0 G ca kK kV fm h0 u h1 v h2) 1) (w0.1 119) (w0.2.1 119) (w0.2.2 119)) from rfl)
theorem st_p0 (hP : va_P G vwCl (stL ca h0 u h1 v h2) H) (j : Nat) (hj : j < 15) : ∀ q : Nat × va_E, (wsOf (S0 G ca kK kV fm h0 u h1 v h2) w0)[0 + j]? = some q → va_at G vwCl q H := by
  match j, hj with
  | 0, _ => exact fun q hq => st_at (S := S0 G ca kK kV fm h0 u h1 v h2) (k := 0) tb_0 (st_c0 (kK := kK) (kV := kV) (fm := fm) hP) hq
  | 1, _ => exact fun q hq => st_at (S := S0 G ca kK kV fm h0 u h1 v h2) (k := 1) tb_1 (st_c1 (kK := kK) (kV := kV) (fm := fm) hP) hq
  | 2, _ => exact fun q hq => st_at (S := S0 G ca kK kV fm h0 u h1 v h2) (k := 2) tb_2 (st_c2 (kK := kK) (kV := kV) (fm := fm) hP) hq
  | 3, _ => exact fun q hq => st_at (S := S0 G ca kK kV fm h0 u h1 v h2) (k := 3) tb_3 (st_c3 (kK := kK) (kV := kV) (fm := fm) hP) hq
  | 4, _ => exact fun q hq => st_at (S := S0 G ca kK kV fm h0 u h1 v h2) (k := 4) tb_4 (st_c4 (kK := kK) (kV := kV) (fm := fm) hP) hq
  | 5, _ => exact fun q hq => st_at (S := S0 G ca kK kV fm h0 u h1 v h2) (k := 5) tb_5 (st_c5 (kK := kK) (kV := kV) (fm := fm) hP) hq
  | 6, _ => exact fun q hq => st_at (S := S0 G ca kK kV fm h0 u h1 v h2) (k := 6) tb_6 (st_c6 (kK := kK) (kV := kV) (fm := fm) hP) hq
  | 7, _ => exact fun q hq => st_at (S := S0 G ca kK kV fm h0 u h1 v h2) (k := 7) tb_7 (st_c7 (kK := kK) (kV := kV) (fm := fm) hP) hq
  | 8, _ => exact fun q hq => st_at (S := S0 G ca kK kV fm h0 u h1 v h2) (k := 8) tb_8 (st_c8 (kK := kK) (kV := kV) (fm := fm) hP) hq
  | 9, _ => exact fun q hq => st_at (S := S0 G ca kK kV fm h0 u h1 v h2) (k := 9) tb_9 (st_c9 (kK := kK) (kV := kV) (fm := fm) hP) hq
  | 10, _ => exact fun q hq => st_at (S := S0 G ca kK kV fm h0 u h1 v h2) (k := 10) tb_10 (st_c10 (kK := kK) (kV := kV) (fm := fm) hP) hq
  | 11, _ => exact fun q hq => st_at (S := S0 G ca kK kV fm h0 u h1 v h2) (k := 11) tb_11 (st_c11 (kK := kK) (kV := kV) (fm := fm) hP) hq
  | 12, _ => exact fun q hq => st_at (S := S0 G ca kK kV fm h0 u h1 v h2) (k := 12) tb_12 (st_c12 (kK := kK) (kV := kV) (fm := fm) hP) hq
  | 13, _ => exact fun q hq => st_at (S := S0 G ca kK kV fm h0 u h1 v h2) (k := 13) tb_13 (st_c13 (kK := kK) (kV := kV) (fm := fm) hP) hq
  | 14, _ => exact fun q hq => st_at (S := S0 G ca kK kV fm h0 u h1 v h2) (k := 14) tb_14 (st_c14 (kK := kK) (kV := kV) (fm := fm) hP) hq
  | k + 15, h => exact absurd h (by omega)
theorem st_p1 (hP : va_P G vwCl (stL ca h0 u h1 v h2) H) (j : Nat) (hj : j < 15) : ∀ q : Nat × va_E, (wsOf (S0 G ca kK kV fm h0 u h1 v h2) w0)[15 + j]? = some q → va_at G vwCl q H := by
  match j, hj with
  | 0, _ => exact fun q hq => st_at (S := S0 G ca kK kV fm h0 u h1 v h2) (k := 15) tb_15 (st_c15 (kK := kK) (kV := kV) (fm := fm) hP) hq
  | 1, _ => exact fun q hq => st_at (S := S0 G ca kK kV fm h0 u h1 v h2) (k := 16) tb_16 (st_c16 (kK := kK) (kV := kV) (fm := fm) hP) hq
  | 2, _ => exact fun q hq => st_at (S := S0 G ca kK kV fm h0 u h1 v h2) (k := 17) tb_17 (st_c17 (kK := kK) (kV := kV) (fm := fm) hP) hq
  | 3, _ => exact fun q hq => st_at (S := S0 G ca kK kV fm h0 u h1 v h2) (k := 18) tb_18 (st_c18 (kK := kK) (kV := kV) (fm := fm) hP) hq
  | 4, _ => exact fun q hq => st_at (S := S0 G ca kK kV fm h0 u h1 v h2) (k := 19) tb_19 (st_c19 (kK := kK) (kV := kV) (fm := fm) hP) hq
  | 5, _ => exact fun q hq => st_at (S := S0 G ca kK kV fm h0 u h1 v h2) (k := 20) tb_20 (st_c20 (kK := kK) (kV := kV) (fm := fm) hP) hq
  | 6, _ => exact fun q hq => st_at (S := S0 G ca kK kV fm h0 u h1 v h2) (k := 21) tb_21 (st_c21 (kK := kK) (kV := kV) (fm := fm) hP) hq
  | 7, _ => exact fun q hq => st_at (S := S0 G ca kK kV fm h0 u h1 v h2) (k := 22) tb_22 (st_c22 (kK := kK) (kV := kV) (fm := fm) hP) hq
  | 8, _ => exact fun q hq => st_at (S := S0 G ca kK kV fm h0 u h1 v h2) (k := 23) tb_23 (st_c23 (kK := kK) (kV := kV) (fm := fm) hP) hq
  | 9, _ => exact fun q hq => st_at (S := S0 G ca kK kV fm h0 u h1 v h2) (k := 24) tb_24 (st_c24 (kK := kK) (kV := kV) (fm := fm) hP) hq
  | 10, _ => exact fun q hq => st_at (S := S0 G ca kK kV fm h0 u h1 v h2) (k := 25) tb_25 (st_c25 (kK := kK) (kV := kV) (fm := fm) hP) hq
  | 11, _ => exact fun q hq => st_at (S := S0 G ca kK kV fm h0 u h1 v h2) (k := 26) tb_26 (st_c26 (kK := kK) (kV := kV) (fm := fm) hP) hq
  | 12, _ => exact fun q hq => st_at (S := S0 G ca kK kV fm h0 u h1 v h2) (k := 27) tb_27 (st_c27 (kK := kK) (kV := kV) (fm := fm) hP) hq
  | 13, _ => exact fun q hq => st_at (S := S0 G ca kK kV fm h0 u h1 v h2) (k := 28) tb_28 (st_c28 (kK := kK) (kV := kV) (fm := fm) hP) hq
  | 14, _ => exact fun q hq => st_at (S := S0 G ca kK kV fm h0 u h1 v h2) (k := 29) tb_29 (st_c29 (kK := kK) (kV := kV) (fm := fm) hP) hq
  | k + 15, h => exact absurd h (by omega)
theorem st_p2 (hP : va_P G vwCl (stL ca h0 u h1 v h2) H) (j : Nat) (hj : j < 15) : ∀ q : Nat × va_E, (wsOf (S0 G ca kK kV fm h0 u h1 v h2) w0)[30 + j]? = some q → va_at G vwCl q H := by
  match j, hj with
  | 0, _ => exact fun q hq => st_at (S := S0 G ca kK kV fm h0 u h1 v h2) (k := 30) tb_30 (st_c30 (kK := kK) (kV := kV) (fm := fm) hP) hq
  | 1, _ => exact fun q hq => st_at (S := S0 G ca kK kV fm h0 u h1 v h2) (k := 31) tb_31 (st_c31 (kK := kK) (kV := kV) (fm := fm) hP) hq
  | 2, _ => exact fun q hq => st_at (S := S0 G ca kK kV fm h0 u h1 v h2) (k := 32) tb_32 (st_c32 (kK := kK) (kV := kV) (fm := fm) hP) hq
  | 3, _ => exact fun q hq => st_at (S := S0 G ca kK kV fm h0 u h1 v h2) (k := 33) tb_33 (st_c33 (kK := kK) (kV := kV) (fm := fm) hP) hq
  | 4, _ => exact fun q hq => st_at (S := S0 G ca kK kV fm h0 u h1 v h2) (k := 34) tb_34 (st_c34 (kK := kK) (kV := kV) (fm := fm) hP) hq
  | 5, _ => exact fun q hq => st_at (S := S0 G ca kK kV fm h0 u h1 v h2) (k := 35) tb_35 (st_c35 (kK := kK) (kV := kV) (fm := fm) hP) hq
  | 6, _ => exact fun q hq => st_at (S := S0 G ca kK kV fm h0 u h1 v h2) (k := 36) tb_36 (st_c36 (kK := kK) (kV := kV) (fm := fm) hP) hq
  | 7, _ => exact fun q hq => st_at (S := S0 G ca kK kV fm h0 u h1 v h2) (k := 37) tb_37 (st_c37 (kK := kK) (kV := kV) (fm := fm) hP) hq
  | 8, _ => exact fun q hq => st_at (S := S0 G ca kK kV fm h0 u h1 v h2) (k := 38) tb_38 (st_c38 (kK := kK) (kV := kV) (fm := fm) hP) hq
  | 9, _ => exact fun q hq => st_at (S := S0 G ca kK kV fm h0 u h1 v h2) (k := 39) tb_39 (st_c39 (kK := kK) (kV := kV) (fm := fm) hP) hq
  | 10, _ => exact fun q hq => st_at (S := S0 G ca kK kV fm h0 u h1 v h2) (k := 40) tb_40 (st_c40 (kK := kK) (kV := kV) (fm := fm) hP) hq
  | 11, _ => exact fun q hq => st_at (S := S0 G ca kK kV fm h0 u h1 v h2) (k := 41) tb_41 (st_c41 (kK := kK) (kV := kV) (fm := fm) hP) hq
  | 12, _ => exact fun q hq => st_at (S := S0 G ca kK kV fm h0 u h1 v h2) (k := 42) tb_42 (st_c42 (kK := kK) (kV := kV) (fm := fm) hP) hq
  | 13, _ => exact fun q hq => st_at (S := S0 G ca kK kV fm h0 u h1 v h2) (k := 43) tb_43 (st_c43 (kK := kK) (kV := kV) (fm := fm) hP) hq
  | 14, _ => exact fun q hq => st_at (S := S0 G ca kK kV fm h0 u h1 v h2) (k := 44) tb_44 (st_c44 (kK := kK) (kV := kV) (fm := fm) hP) hq
  | k + 15, h => exact absurd h (by omega)
theorem st_p3 (hP : va_P G vwCl (stL ca h0 u h1 v h2) H) (j : Nat) (hj : j < 15) : ∀ q : Nat × va_E, (wsOf (S0 G ca kK kV fm h0 u h1 v h2) w0)[45 + j]? = some q → va_at G vwCl q H := by
  match j, hj with
  | 0, _ => exact fun q hq => st_at (S := S0 G ca kK kV fm h0 u h1 v h2) (k := 45) tb_45 (st_c45 (kK := kK) (kV := kV) (fm := fm) hP) hq
  | 1, _ => exact fun q hq => st_at (S := S0 G ca kK kV fm h0 u h1 v h2) (k := 46) tb_46 (st_c46 (kK := kK) (kV := kV) (fm := fm) hP) hq
  | 2, _ => exact fun q hq => st_at (S := S0 G ca kK kV fm h0 u h1 v h2) (k := 47) tb_47 (st_c47 (kK := kK) (kV := kV) (fm := fm) hP) hq
  | 3, _ => exact fun q hq => st_at (S := S0 G ca kK kV fm h0 u h1 v h2) (k := 48) tb_48 (st_c48 (kK := kK) (kV := kV) (fm := fm) hP) hq
  | 4, _ => exact fun q hq => st_at (S := S0 G ca kK kV fm h0 u h1 v h2) (k := 49) tb_49 (st_c49 (kK := kK) (kV := kV) (fm := fm) hP) hq
  | 5, _ => exact fun q hq => st_at (S := S0 G ca kK kV fm h0 u h1 v h2) (k := 50) tb_50 (st_c50 (kK := kK) (kV := kV) (fm := fm) hP) hq
  | 6, _ => exact fun q hq => st_at (S := S0 G ca kK kV fm h0 u h1 v h2) (k := 51) tb_51 (st_c51 (kK := kK) (kV := kV) (fm := fm) hP) hq
  | 7, _ => exact fun q hq => st_at (S := S0 G ca kK kV fm h0 u h1 v h2) (k := 52) tb_52 (st_c52 (kK := kK) (kV := kV) (fm := fm) hP) hq
  | 8, _ => exact fun q hq => st_at (S := S0 G ca kK kV fm h0 u h1 v h2) (k := 53) tb_53 (st_c53 (kK := kK) (kV := kV) (fm := fm) hP) hq
  | 9, _ => exact fun q hq => st_at (S := S0 G ca kK kV fm h0 u h1 v h2) (k := 54) tb_54 (st_c54 (kK := kK) (kV := kV) (fm := fm) hP) hq
  | 10, _ => exact fun q hq => st_at (S := S0 G ca kK kV fm h0 u h1 v h2) (k := 55) tb_55 (st_c55 (kK := kK) (kV := kV) (fm := fm) hP) hq
  | 11, _ => exact fun q hq => st_at (S := S0 G ca kK kV fm h0 u h1 v h2) (k := 56) tb_56 (st_c56 (kK := kK) (kV := kV) (fm := fm) hP) hq
  | 12, _ => exact fun q hq => st_at (S := S0 G ca kK kV fm h0 u h1 v h2) (k := 57) tb_57 (st_c57 (kK := kK) (kV := kV) (fm := fm) hP) hq
  | 13, _ => exact fun q hq => st_at (S := S0 G ca kK kV fm h0 u h1 v h2) (k := 58) tb_58 (st_c58 (kK := kK) (kV := kV) (fm := fm) hP) hq
  | 14, _ => exact fun q hq => st_at (S := S0 G ca kK kV fm h0 u h1 v h2) (k := 59) tb_59 (st_c59 (kK := kK) (kV := kV) (fm := fm) hP) hq
  | k + 15, h => exact absurd h (by omega)
theorem st_p4 (hP : va_P G vwCl (stL ca h0 u h1 v h2) H) (j : Nat) (hj : j < 15) : ∀ q : Nat × va_E, (wsOf (S0 G ca kK kV fm h0 u h1 v h2) w0)[60 + j]? = some q → va_at G vwCl q H := by
  match j, hj with
  | 0, _ => exact fun q hq => st_at (S := S0 G ca kK kV fm h0 u h1 v h2) (k := 60) tb_60 (st_c60 (kK := kK) (kV := kV) (fm := fm) hP) hq
  | 1, _ => exact fun q hq => st_at (S := S0 G ca kK kV fm h0 u h1 v h2) (k := 61) tb_61 (st_c61 (kK := kK) (kV := kV) (fm := fm) hP) hq
  | 2, _ => exact fun q hq => st_at (S := S0 G ca kK kV fm h0 u h1 v h2) (k := 62) tb_62 (st_c62 (kK := kK) (kV := kV) (fm := fm) hP) hq
  | 3, _ => exact fun q hq => st_at (S := S0 G ca kK kV fm h0 u h1 v h2) (k := 63) tb_63 (st_c63 (kK := kK) (kV := kV) (fm := fm) hP) hq
  | 4, _ => exact fun q hq => st_at (S := S0 G ca kK kV fm h0 u h1 v h2) (k := 64) tb_64 (st_c64 (kK := kK) (kV := kV) (fm := fm) hP) hq
  | 5, _ => exact fun q hq => st_at (S := S0 G ca kK kV fm h0 u h1 v h2) (k := 65) tb_65 (st_c65 (kK := kK) (kV := kV) (fm := fm) hP) hq
  | 6, _ => exact fun q hq => st_at (S := S0 G ca kK kV fm h0 u h1 v h2) (k := 66) tb_66 (st_c66 (kK := kK) (kV := kV) (fm := fm) hP) hq
  | 7, _ => exact fun q hq => st_at (S := S0 G ca kK kV fm h0 u h1 v h2) (k := 67) tb_67 (st_c67 (kK := kK) (kV := kV) (fm := fm) hP) hq
  | 8, _ => exact fun q hq => st_at (S := S0 G ca kK kV fm h0 u h1 v h2) (k := 68) tb_68 (st_c68 (kK := kK) (kV := kV) (fm := fm) hP) hq
  | 9, _ => exact fun q hq => st_at (S := S0 G ca kK kV fm h0 u h1 v h2) (k := 69) tb_69 (st_c69 (kK := kK) (kV := kV) (fm := fm) hP) hq
  | 10, _ => exact fun q hq => st_at (S := S0 G ca kK kV fm h0 u h1 v h2) (k := 70) tb_70 (st_c70 (kK := kK) (kV := kV) (fm := fm) hP) hq
  | 11, _ => exact fun q hq => st_at (S := S0 G ca kK kV fm h0 u h1 v h2) (k := 71) tb_71 (st_c71 (kK := kK) (kV := kV) (fm := fm) hP) hq
  | 12, _ => exact fun q hq => st_at (S := S0 G ca kK kV fm h0 u h1 v h2) (k := 72) tb_72 (st_c72 (kK := kK) (kV := kV) (fm := fm) hP) hq
  | 13, _ => exact fun q hq => st_at (S := S0 G ca kK kV fm h0 u h1 v h2) (k := 73) tb_73 (st_c73 (kK := kK) (kV := kV) (fm := fm) hP) hq
  | 14, _ => exact fun q hq => st_at (S := S0 G ca kK kV fm h0 u h1 v h2) (k := 74) tb_74 (st_c74 (kK := kK) (kV := kV) (fm := fm) hP) hq
  | k + 15, h => exact absurd h (by omega)
theorem st_p5 (hP : va_P G vwCl (stL ca h0 u h1 v h2) H) (j : Nat) (hj : j < 15) : ∀ q : Nat × va_E, (wsOf (S0 G ca kK kV fm h0 u h1 v h2) w0)[75 + j]? = some q → va_at G vwCl q H := by
  match j, hj with
  | 0, _ => exact fun q hq => st_at (S := S0 G ca kK kV fm h0 u h1 v h2) (k := 75) tb_75 (st_c75 (kK := kK) (kV := kV) (fm := fm) hP) hq
  | 1, _ => exact fun q hq => st_at (S := S0 G ca kK kV fm h0 u h1 v h2) (k := 76) tb_76 (st_c76 (kK := kK) (kV := kV) (fm := fm) hP) hq
  | 2, _ => exact fun q hq => st_at (S := S0 G ca kK kV fm h0 u h1 v h2) (k := 77) tb_77 (st_c77 (kK := kK) (kV := kV) (fm := fm) hP) hq
  | 3, _ => exact fun q hq => st_at (S := S0 G ca kK kV fm h0 u h1 v h2) (k := 78) tb_78 (st_c78 (kK := kK) (kV := kV) (fm := fm) hP) hq
  | 4, _ => exact fun q hq => st_at (S := S0 G ca kK kV fm h0 u h1 v h2) (k := 79) tb_79 (st_c79 (kK := kK) (kV := kV) (fm := fm) hP) hq
  | 5, _ => exact fun q hq => st_at (S := S0 G ca kK kV fm h0 u h1 v h2) (k := 80) tb_80 (st_c80 (kK := kK) (kV := kV) (fm := fm) hP) hq
  | 6, _ => exact fun q hq => st_at (S := S0 G ca kK kV fm h0 u h1 v h2) (k := 81) tb_81 (st_c81 (kK := kK) (kV := kV) (fm := fm) hP) hq
  | 7, _ => exact fun q hq => st_at (S := S0 G ca kK kV fm h0 u h1 v h2) (k := 82) tb_82 (st_c82 (kK := kK) (kV := kV) (fm := fm) hP) hq
  | 8, _ => exact fun q hq => st_at (S := S0 G ca kK kV fm h0 u h1 v h2) (k := 83) tb_83 (st_c83 (kK := kK) (kV := kV) (fm := fm) hP) hq
  | 9, _ => exact fun q hq => st_at (S := S0 G ca kK kV fm h0 u h1 v h2) (k := 84) tb_84 (st_c84 (kK := kK) (kV := kV) (fm := fm) hP) hq
  | 10, _ => exact fun q hq => st_at (S := S0 G ca kK kV fm h0 u h1 v h2) (k := 85) tb_85 (st_c85 (kK := kK) (kV := kV) (fm := fm) hP) hq
  | 11, _ => exact fun q hq => st_at (S := S0 G ca kK kV fm h0 u h1 v h2) (k := 86) tb_86 (st_c86 (kK := kK) (kV := kV) (fm := fm) hP) hq
  | 12, _ => exact fun q hq => st_at (S := S0 G ca kK kV fm h0 u h1 v h2) (k := 87) tb_87 (st_c87 (kK := kK) (kV := kV) (fm := fm) hP) hq
  | 13, _ => exact fun q hq => st_at (S := S0 G ca kK kV fm h0 u h1 v h2) (k := 88) tb_88 (st_c88 (kK := kK) (kV := kV) (fm := fm) hP) hq
  | 14, _ => exact fun q hq => st_at (S := S0 G ca kK kV fm h0 u h1 v h2) (k := 89) tb_89 (st_c89 (kK := kK) (kV := kV) (fm := fm) hP) hq
  | k + 15, h => exact absurd h (by omega)
theorem st_p6 (hP : va_P G vwCl (stL ca h0 u h1 v h2) H) (j : Nat) (hj : j < 15) : ∀ q : Nat × va_E, (wsOf (S0 G ca kK kV fm h0 u h1 v h2) w0)[90 + j]? = some q → va_at G vwCl q H := by
  match j, hj with
  | 0, _ => exact fun q hq => st_at (S := S0 G ca kK kV fm h0 u h1 v h2) (k := 90) tb_90 (st_c90 (kK := kK) (kV := kV) (fm := fm) hP) hq
  | 1, _ => exact fun q hq => st_at (S := S0 G ca kK kV fm h0 u h1 v h2) (k := 91) tb_91 (st_c91 (kK := kK) (kV := kV) (fm := fm) hP) hq
  | 2, _ => exact fun q hq => st_at (S := S0 G ca kK kV fm h0 u h1 v h2) (k := 92) tb_92 (st_c92 (kK := kK) (kV := kV) (fm := fm) hP) hq
  | 3, _ => exact fun q hq => st_at (S := S0 G ca kK kV fm h0 u h1 v h2) (k := 93) tb_93 (st_c93 (kK := kK) (kV := kV) (fm := fm) hP) hq
  | 4, _ => exact fun q hq => st_at (S := S0 G ca kK kV fm h0 u h1 v h2) (k := 94) tb_94 (st_c94 (kK := kK) (kV := kV) (fm := fm) hP) hq
  | 5, _ => exact fun q hq => st_at (S := S0 G ca kK kV fm h0 u h1 v h2) (k := 95) tb_95 (st_c95 (kK := kK) (kV := kV) (fm := fm) hP) hq
  | 6, _ => exact fun q hq => st_at (S := S0 G ca kK kV fm h0 u h1 v h2) (k := 96) tb_96 (st_c96 (kK := kK) (kV := kV) (fm := fm) hP) hq
  | 7, _ => exact fun q hq => st_at (S := S0 G ca kK kV fm h0 u h1 v h2) (k := 97) tb_97 (st_c97 (kK := kK) (kV := kV) (fm := fm) hP) hq
  | 8, _ => exact fun q hq => st_at (S := S0 G ca kK kV fm h0 u h1 v h2) (k := 98) tb_98 (st_c98 (kK := kK) (kV := kV) (fm := fm) hP) hq
  | 9, _ => exact fun q hq => st_at (S := S0 G ca kK kV fm h0 u h1 v h2) (k := 99) tb_99 (st_c99 (kK := kK) (kV := kV) (fm := fm) hP) hq
  | 10, _ => exact fun q hq => st_at (S := S0 G ca kK kV fm h0 u h1 v h2) (k := 100) tb_100 (st_c100 (kK := kK) (kV := kV) (fm := fm) hP) hq
  | 11, _ => exact fun q hq => st_at (S := S0 G ca kK kV fm h0 u h1 v h2) (k := 101) tb_101 (st_c101 (kK := kK) (kV := kV) (fm := fm) hP) hq
  | 12, _ => exact fun q hq => st_at (S := S0 G ca kK kV fm h0 u h1 v h2) (k := 102) tb_102 (st_c102 (kK := kK) (kV := kV) (fm := fm) hP) hq
  | 13, _ => exact fun q hq => st_at (S := S0 G ca kK kV fm h0 u h1 v h2) (k := 103) tb_103 (st_c103 (kK := kK) (kV := kV) (fm := fm) hP) hq
  | 14, _ => exact fun q hq => st_at (S := S0 G ca kK kV fm h0 u h1 v h2) (k := 104) tb_104 (st_c104 (kK := kK) (kV := kV) (fm := fm) hP) hq
  | k + 15, h => exact absurd h (by omega)
theorem st_p7 (hP : va_P G vwCl (stL ca h0 u h1 v h2) H) (j : Nat) (hj : j < 15) : ∀ q : Nat × va_E, (wsOf (S0 G ca kK kV fm h0 u h1 v h2) w0)[105 + j]? = some q → va_at G vwCl q H := by
  match j, hj with
  | 0, _ => exact fun q hq => st_at (S := S0 G ca kK kV fm h0 u h1 v h2) (k := 105) tb_105 (st_c105 (kK := kK) (kV := kV) (fm := fm) hP) hq
  | 1, _ => exact fun q hq => st_at (S := S0 G ca kK kV fm h0 u h1 v h2) (k := 106) tb_106 (st_c106 (kK := kK) (kV := kV) (fm := fm) hP) hq
  | 2, _ => exact fun q hq => st_at (S := S0 G ca kK kV fm h0 u h1 v h2) (k := 107) tb_107 (st_c107 (kK := kK) (kV := kV) (fm := fm) hP) hq
  | 3, _ => exact fun q hq => st_at (S := S0 G ca kK kV fm h0 u h1 v h2) (k := 108) tb_108 (st_c108 (kK := kK) (kV := kV) (fm := fm) hP) hq
  | 4, _ => exact fun q hq => st_at (S := S0 G ca kK kV fm h0 u h1 v h2) (k := 109) tb_109 (st_c109 (kK := kK) (kV := kV) (fm := fm) hP) hq
  | 5, _ => exact fun q hq => st_at (S := S0 G ca kK kV fm h0 u h1 v h2) (k := 110) tb_110 (st_c110 (kK := kK) (kV := kV) (fm := fm) hP) hq
  | 6, _ => exact fun q hq => st_at (S := S0 G ca kK kV fm h0 u h1 v h2) (k := 111) tb_111 (st_c111 (kK := kK) (kV := kV) (fm := fm) hP) hq
  | 7, _ => exact fun q hq => st_at (S := S0 G ca kK kV fm h0 u h1 v h2) (k := 112) tb_112 (st_c112 (kK := kK) (kV := kV) (fm := fm) hP) hq
  | 8, _ => exact fun q hq => st_at (S := S0 G ca kK kV fm h0 u h1 v h2) (k := 113) tb_113 (st_c113 (kK := kK) (kV := kV) (fm := fm) hP) hq
  | 9, _ => exact fun q hq => st_at (S := S0 G ca kK kV fm h0 u h1 v h2) (k := 114) tb_114 (st_c114 (kK := kK) (kV := kV) (fm := fm) hP) hq
  | 10, _ => exact fun q hq => st_at (S := S0 G ca kK kV fm h0 u h1 v h2) (k := 115) tb_115 (st_c115 (kK := kK) (kV := kV) (fm := fm) hP) hq
  | 11, _ => exact fun q hq => st_at (S := S0 G ca kK kV fm h0 u h1 v h2) (k := 116) tb_116 (st_c116 (kK := kK) (kV := kV) (fm := fm) hP) hq
  | 12, _ => exact fun q hq => st_at (S := S0 G ca kK kV fm h0 u h1 v h2) (k := 117) tb_117 (st_c117 (kK := kK) (kV := kV) (fm := fm) hP) hq
  | 13, _ => exact fun q hq => st_at (S := S0 G ca kK kV fm h0 u h1 v h2) (k := 118) tb_118 (st_c118 (kK := kK) (kV := kV) (fm := fm) hP) hq
  | 14, _ => exact fun q hq => st_at (S := S0 G ca kK kV fm h0 u h1 v h2) (k := 119) tb_119 (st_c119 (kK := kK) (kV := kV) (fm := fm) hP) hq
  | k + 15, h => exact absurd h (by omega)
theorem st_P (hP : va_P G vwCl (stL ca h0 u h1 v h2) H) : va_P G vwCl (wsOf (S0 G ca kK kV fm h0 u h1 v h2) w0) H := by
  intro k q hq
  have hk : k < 120 := by have := (List.getElem?_eq_some_iff.mp hq).1; unfold wsOf at this; rw [List.length_mapIdx] at this; exact this
  by_cases c0 : k < 15
  · obtain ⟨j, rfl⟩ : ∃ j, k = 0 + j := ⟨k - 0, by omega⟩
    exact st_p0 hP j (by omega) q hq
  by_cases c1 : k < 30
  · obtain ⟨j, rfl⟩ : ∃ j, k = 15 + j := ⟨k - 15, by omega⟩
    exact st_p1 hP j (by omega) q hq
  by_cases c2 : k < 45
  · obtain ⟨j, rfl⟩ : ∃ j, k = 30 + j := ⟨k - 30, by omega⟩
    exact st_p2 hP j (by omega) q hq
  by_cases c3 : k < 60
  · obtain ⟨j, rfl⟩ : ∃ j, k = 45 + j := ⟨k - 45, by omega⟩
    exact st_p3 hP j (by omega) q hq
  by_cases c4 : k < 75
  · obtain ⟨j, rfl⟩ : ∃ j, k = 60 + j := ⟨k - 60, by omega⟩
    exact st_p4 hP j (by omega) q hq
  by_cases c5 : k < 90
  · obtain ⟨j, rfl⟩ : ∃ j, k = 75 + j := ⟨k - 75, by omega⟩
    exact st_p5 hP j (by omega) q hq
  by_cases c6 : k < 105
  · obtain ⟨j, rfl⟩ : ∃ j, k = 90 + j := ⟨k - 90, by omega⟩
    exact st_p6 hP j (by omega) q hq
  by_cases c7 : k < 120
  · obtain ⟨j, rfl⟩ : ∃ j, k = 105 + j := ⟨k - 105, by omega⟩
    exact st_p7 hP j (by omega) q hq
  exact absurd hk (by omega)
set_option maxRecDepth 100000 in
theorem st_ad : (stL ca h0 u h1 v h2).map Prod.fst = adL h0 u h1 v h2 := rfl
theorem adL_len : (adL h0 u h1 v h2).length = 120 := rfl
theorem st_adr (i : Nat) (hi : i < 120) : (adL h0 u h1 v h2)[i]? = some (adr (S0 G ca kK kV fm h0 u h1 v h2) i) := by
  show _ = some ((adL h0 u h1 v h2).getD i 0)
  rw [List.getD_eq_getElem?_getD, List.getElem?_eq_getElem (by rw [adL_len]; exact hi)]
  rfl
theorem st_inj {A : Nat → Prop} (hD : va_D A (stL ca h0 u h1 v h2)) (i j : Nat) (hi : i < NC) (hj : j < NC) (e : adr (S0 G ca kK kV fm h0 u h1 v h2) i = adr (S0 G ca kK kV fm h0 u h1 v h2) j) : i = j := by
  have key : ∀ i, i < 120 → ∃ q, (stL ca h0 u h1 v h2)[i]? = some q ∧ q.1 = adr (S0 G ca kK kV fm h0 u h1 v h2) i := fun i hi => by
    have h := st_adr (G := G) (ca := ca) (kK := kK) (kV := kV) (fm := fm) (h0 := h0) (u := u) (h1 := h1) (v := v) (h2 := h2) i hi
    rw [← st_ad (ca := ca), List.getElem?_map] at h
    cases hq : (stL ca h0 u h1 v h2)[i]? with
    | none => rw [hq] at h; cases h
    | some q => rw [hq] at h; exact ⟨q, rfl, Option.some.inj h⟩
  obtain ⟨p, hp, ep⟩ := key i hi
  obtain ⟨q, hq, eq⟩ := key j hj
  exact hD.1 i j p q hp hq (by rw [ep, eq]; exact e)
theorem st_in {A : Nat → Prop} (hD : va_D A (stL ca h0 u h1 v h2)) (q : Nat) (h : Aw (S0 G ca kK kV fm h0 u h1 v h2) q) : A q := by
  obtain ⟨i, hi, rfl⟩ := h
  have h := st_adr (G := G) (ca := ca) (kK := kK) (kV := kV) (fm := fm) (h0 := h0) (u := u) (h1 := h1) (v := v) (h2 := h2) i hi
  rw [← st_ad (ca := ca), List.getElem?_map] at h
  cases hq : (stL ca h0 u h1 v h2)[i]? with
  | none => rw [hq] at h; cases h
  | some z =>
    rw [hq] at h
    have e := Option.some.inj h
    rw [← e]
    exact hD.2 i z hq
end START
