-- ===== the world at the start =====
def i0F : Nat → Int32 := fun _ => 0
def tiF : Nat → Int32 := fun k => if k = 3 then 5 else if k = 5 then 2 else 0
def beF : Nat → Int32 := fun k => if k = 2 then 50 else 0
def i94F : Nat → Int32 := upd (upd (upd (fun _ => 0) (0 : Int32).toNatClampNeg 5) (1 : Int32).toNatClampNeg 0) (2 : Int32).toNatClampNeg 2
def i95F : Nat → Int32 := upd (upd (upd (upd (upd (upd (upd (upd (upd (upd (upd (upd (upd (upd (upd (upd (fun _ => 0) (0 : Int32).toNatClampNeg 0) (1 : Int32).toNatClampNeg 0) (2 : Int32).toNatClampNeg 0) (3 : Int32).toNatClampNeg 0) (4 : Int32).toNatClampNeg 0) (5 : Int32).toNatClampNeg 0) (6 : Int32).toNatClampNeg 0) (7 : Int32).toNatClampNeg 0) (8 : Int32).toNatClampNeg 0) (9 : Int32).toNatClampNeg 50) (10 : Int32).toNatClampNeg 0) (11 : Int32).toNatClampNeg 0) (12 : Int32).toNatClampNeg 0) (13 : Int32).toNatClampNeg 0) (14 : Int32).toNatClampNeg 0) (15 : Int32).toNatClampNeg 0
def i0L : List (Nat → Int32) := [i0F, i0F, i0F, i0F, i0F, tiF, i0F, i0F, i0F, i0F, i0F, i0F, i0F, i0F, i0F, i0F, i0F, tiF, i0F, i0F, i0F, i0F, i0F, beF, i0F, beF, i0F, beF, i0F, i0F, i0F, beF, i0F, beF, i0F, beF, i0F, beF, i0F, beF, i0F, beF, i0F, beF, i0F, beF, i0F, beF, i0F, beF, i0F, beF, i0F, beF, i0F, beF, i0F, beF, i0F, beF, i0F, i0F, i0F, i0F, i0F, i0F, beF, i0F, beF, i0F, beF, i0F, beF, i0F, beF, i0F, i0F, i0F, i0F, i0F, i0F, i0F, beF, i0F, beF, i0F, beF, i0F, i0F, i0F, i0F, i0F, i0F, i0F, i94F, i95F, i0F, i0F, i0F, i0F, i0F, i0F, i0F, i0F, i0F, i0F, i0F, i0F, i0F, i0F, i0F, i0F, i0F, i0F, i0F, i0F, i0F, i0F, i0F, i0F]
def r4F : Nat → Nat := fun k => if k = 4 then 18 else 0
def r2F : Nat → Nat := fun k => if k = 2 then 12 else 0
def r0F : Nat → Nat := fun _ => 0
def w0 : Wd := (fun a => i0L.getD a i0F, fun _ _ => 0, fun a => if a = 0 then r4F else if a = 5 then r2F else if a = 17 then r2F else r0F)
def adL (h0 : Nat) (u : Nat → Nat) (h1 : Nat) (v : Nat → Nat) (h2 : Nat) : List Nat := [h0, u 0, u 1, u 2, u 3, u 4, u 5, u 6, u 7, u 8, u 9, u 10, u 11, u 12, u 13, u 14, u 15, u 16, u 17, u 18, u 19, u 20, u 21, u 22, u 23, u 24, u 25, u 26, u 27, u 28, u 29, u 30, u 31, u 32, u 33, u 34, u 35, u 36, u 37, u 38, u 39, u 40, u 41, u 42, u 43, u 44, u 45, u 46, u 47, u 48, u 49, u 50, u 51, u 52, u 53, u 54, u 55, u 56, u 57, u 58, u 59, u 60, u 61, u 62, u 63, u 64, u 65, u 66, u 67, u 68, u 69, u 70, u 71, u 72, u 73, u 74, u 75, u 76, u 77, u 78, u 79, u 80, u 81, u 82, u 83, u 84, u 85, u 86, h1, v 0, v 1, v 2, v 3, v 4, v 5, v 6, v 7, v 8, v 9, v 10, v 11, v 12, v 13, v 14, v 15, v 16, v 17, v 18, v 19, v 20, v 21, v 22, v 23, v 24, v 25, v 26, v 27, v 28, v 29, h2]
def stL (ca : Nat → ClassId) (h0 : Nat) (u : Nat → Nat) (h1 : Nat) (v : Nat → Nat) (h2 : Nat) : va_W := bk_X10 ca h0 u ++ (bk_X11 ca h1 v ++ [(h2, .inl (ca 1, 1, .inr (.inl (fun _ => 0))))])
def S0 (G : va_G) (ca : Nat → ClassId) (kK kV : Nat → Nat) (fm : Option Nat) (h0 : Nat) (u : Nat → Nat) (h1 : Nat) (v : Nat → Nat) (h2 : Nat) : Sx := (G, fun i => (adL h0 u h1 v h2).getD i 0, ca, kK, kV, fm)
theorem cl_0 : (0 : Int32).toNatClampNeg = 0 := by decide
theorem cl_1 : (1 : Int32).toNatClampNeg = 1 := by decide
theorem cl_2 : (2 : Int32).toNatClampNeg = 2 := by decide
theorem cl_3 : (3 : Int32).toNatClampNeg = 3 := by decide
theorem cl_4 : (4 : Int32).toNatClampNeg = 4 := by decide
theorem cl_5 : (5 : Int32).toNatClampNeg = 5 := by decide
theorem cl_6 : (6 : Int32).toNatClampNeg = 6 := by decide
theorem cl_7 : (7 : Int32).toNatClampNeg = 7 := by decide
theorem cl_8 : (8 : Int32).toNatClampNeg = 8 := by decide
theorem cl_9 : (9 : Int32).toNatClampNeg = 9 := by decide
theorem cl_10 : (10 : Int32).toNatClampNeg = 10 := by decide
theorem cl_11 : (11 : Int32).toNatClampNeg = 11 := by decide
theorem cl_12 : (12 : Int32).toNatClampNeg = 12 := by decide
theorem cl_13 : (13 : Int32).toNatClampNeg = 13 := by decide
theorem cl_14 : (14 : Int32).toNatClampNeg = 14 := by decide
theorem cl_15 : (15 : Int32).toNatClampNeg = 15 := by decide
theorem arrV_eq {cA : ClassId} {n : Nat} {f g : Nat → Value} (h : ∀ j, j < n → f j = g j) : arrV cA n f = arrV cA n g := by
  unfold arrV
  congr 1
  first
    | (apply Array.ext_getElem?; intro i; simp; intro hi; exact h i hi)
    | (apply Array.toList_inj.mp; simp; exact h)
    | (simp; exact h)
    | (apply List.map_congr_left; intro j hj; exact h j (List.mem_range.mp hj))
section START
variable {G : va_G} {ca : Nat → ClassId} {kK kV : Nat → Nat} {fm : Option Nat} {h0 : Nat} {u : Nat → Nat} {h1 : Nat} {v : Nat → Nat} {h2 : Nat} {H : Heap}
theorem st_B {q n : Nat} {cA : ClassId} {f g : Nat → Option Nat} (h : va_at G vwCl (q, .inl (cA, n, .inr (.inr (.inr (.inr f))))) H) (e : ∀ j, j < n → f j = g j) : va_at G vwCl (q, .inl (cA, n, .inr (.inr (.inr (.inr g))))) H := by
  have h' : H[q]? = some (arrV cA n (fun j => va_rf (f j))) := h
  show H[q]? = some (arrV cA n (fun j => va_rf (g j)))
  rw [h', arrV_eq (g := fun j => va_rf (g j)) (fun j hj => by rw [e j hj])]
set_option maxRecDepth 100000 in
theorem st_f30 (j : Nat) (hj : j < 15) : (va_up (va_up (va_up (va_up (va_up (va_up (va_up (va_up (va_up (va_up (va_up (va_up (va_up (va_up (va_up (fun _ => none) (0 : Int32).toNatClampNeg (some (u 30))) (1 : Int32).toNatClampNeg (some (u 32))) (2 : Int32).toNatClampNeg (some (u 34))) (3 : Int32).toNatClampNeg (some (u 36))) (4 : Int32).toNatClampNeg (some (u 38))) (5 : Int32).toNatClampNeg (some (u 40))) (6 : Int32).toNatClampNeg (some (u 42))) (7 : Int32).toNatClampNeg (some (u 44))) (8 : Int32).toNatClampNeg (some (u 46))) (9 : Int32).toNatClampNeg (some (u 48))) (10 : Int32).toNatClampNeg (some (u 50))) (11 : Int32).toNatClampNeg (some (u 52))) (12 : Int32).toNatClampNeg (some (u 54))) (13 : Int32).toNatClampNeg (some (u 56))) (14 : Int32).toNatClampNeg (some (u 58))) j = some ((adL h0 u h1 v h2).getD (31 + 2 * j) 0) := by
  simp only [cl_0, cl_1, cl_2, cl_3, cl_4, cl_5, cl_6, cl_7, cl_8, cl_9, cl_10, cl_11, cl_12, cl_13, cl_14]
  match j, hj with
  | 0, _ => rfl
  | 1, _ => rfl
  | 2, _ => rfl
  | 3, _ => rfl
  | 4, _ => rfl
  | 5, _ => rfl
  | 6, _ => rfl
  | 7, _ => rfl
  | 8, _ => rfl
  | 9, _ => rfl
  | 10, _ => rfl
  | 11, _ => rfl
  | 12, _ => rfl
  | 13, _ => rfl
  | 14, _ => rfl
  | k + 15, h => exact absurd h (by omega)
set_option maxRecDepth 100000 in
theorem st_f61 (j : Nat) (hj : j < 3) : (va_up (va_up (va_up (fun _ => none) (0 : Int32).toNatClampNeg (some (u 81))) (1 : Int32).toNatClampNeg (some (u 83))) (2 : Int32).toNatClampNeg (some (u 85))) j = some ((adL h0 u h1 v h2).getD (82 + 2 * j) 0) := by
  simp only [cl_0, cl_1, cl_2]
  match j, hj with
  | 0, _ => rfl
  | 1, _ => rfl
  | 2, _ => rfl
  | k + 3, h => exact absurd h (by omega)
set_option maxRecDepth 100000 in
theorem st_f63 (j : Nat) (hj : j < 5) : (va_up (va_up (va_up (va_up (va_up (fun _ => none) (0 : Int32).toNatClampNeg (some (u 65))) (1 : Int32).toNatClampNeg (some (u 67))) (2 : Int32).toNatClampNeg (some (u 69))) (3 : Int32).toNatClampNeg (some (u 71))) (4 : Int32).toNatClampNeg (some (u 73))) j = some ((adL h0 u h1 v h2).getD (66 + 2 * j) 0) := by
  simp only [cl_0, cl_1, cl_2, cl_3, cl_4]
  match j, hj with
  | 0, _ => rfl
  | 1, _ => rfl
  | 2, _ => rfl
  | 3, _ => rfl
  | 4, _ => rfl
  | k + 5, h => exact absurd h (by omega)
set_option maxRecDepth 100000 in
set_option maxHeartbeats 4000000 in
theorem st_p0 (hP : va_P G vwCl (stL ca h0 u h1 v h2) H) (j : Nat) (hj : j < 15) (q : Nat × va_E) (hq : (wsOf (S0 G ca kK kV fm h0 u h1 v h2) w0)[0 + j]? = some q) : va_at G vwCl q H := by
  match j, hj, hq with
  | 0, _, hq => cases hq; exact hP 0 _ rfl
  | 1, _, hq => cases hq; exact hP 1 _ rfl
  | 2, _, hq => cases hq; exact hP 2 _ rfl
  | 3, _, hq => cases hq; exact hP 3 _ rfl
  | 4, _, hq => cases hq; exact hP 4 _ rfl
  | 5, _, hq => cases hq; exact hP 5 _ rfl
  | 6, _, hq => cases hq; exact hP 6 _ rfl
  | 7, _, hq => cases hq; exact hP 7 _ rfl
  | 8, _, hq => cases hq; exact hP 8 _ rfl
  | 9, _, hq => cases hq; exact hP 9 _ rfl
  | 10, _, hq => cases hq; exact hP 10 _ rfl
  | 11, _, hq => cases hq; exact hP 11 _ rfl
  | 12, _, hq => cases hq; exact hP 12 _ rfl
  | 13, _, hq => cases hq; exact hP 13 _ rfl
  | 14, _, hq => cases hq; exact hP 14 _ rfl
  | k + 15, h, _ => exact absurd h (by omega)
set_option maxRecDepth 100000 in
set_option maxHeartbeats 4000000 in
theorem st_p1 (hP : va_P G vwCl (stL ca h0 u h1 v h2) H) (j : Nat) (hj : j < 15) (q : Nat × va_E) (hq : (wsOf (S0 G ca kK kV fm h0 u h1 v h2) w0)[15 + j]? = some q) : va_at G vwCl q H := by
  match j, hj, hq with
  | 0, _, hq => cases hq; exact hP 15 _ rfl
  | 1, _, hq => cases hq; exact hP 16 _ rfl
  | 2, _, hq => cases hq; exact hP 17 _ rfl
  | 3, _, hq => cases hq; exact hP 18 _ rfl
  | 4, _, hq => cases hq; exact hP 19 _ rfl
  | 5, _, hq => cases hq; exact hP 20 _ rfl
  | 6, _, hq => cases hq; exact hP 21 _ rfl
  | 7, _, hq => cases hq; exact hP 22 _ rfl
  | 8, _, hq => cases hq; exact hP 23 _ rfl
  | 9, _, hq => cases hq; exact hP 24 _ rfl
  | 10, _, hq => cases hq; exact hP 25 _ rfl
  | 11, _, hq => cases hq; exact hP 26 _ rfl
  | 12, _, hq => cases hq; exact hP 27 _ rfl
  | 13, _, hq => cases hq; exact hP 28 _ rfl
  | 14, _, hq => cases hq; exact hP 29 _ rfl
  | k + 15, h, _ => exact absurd h (by omega)
set_option maxRecDepth 100000 in
set_option maxHeartbeats 4000000 in
theorem st_p2 (hP : va_P G vwCl (stL ca h0 u h1 v h2) H) (j : Nat) (hj : j < 15) (q : Nat × va_E) (hq : (wsOf (S0 G ca kK kV fm h0 u h1 v h2) w0)[30 + j]? = some q) : va_at G vwCl q H := by
  match j, hj, hq with
  | 0, _, hq => cases hq; exact st_B (hP 30 _ rfl) st_f30
  | 1, _, hq => cases hq; exact hP 31 _ rfl
  | 2, _, hq => cases hq; exact hP 32 _ rfl
  | 3, _, hq => cases hq; exact hP 33 _ rfl
  | 4, _, hq => cases hq; exact hP 34 _ rfl
  | 5, _, hq => cases hq; exact hP 35 _ rfl
  | 6, _, hq => cases hq; exact hP 36 _ rfl
  | 7, _, hq => cases hq; exact hP 37 _ rfl
  | 8, _, hq => cases hq; exact hP 38 _ rfl
  | 9, _, hq => cases hq; exact hP 39 _ rfl
  | 10, _, hq => cases hq; exact hP 40 _ rfl
  | 11, _, hq => cases hq; exact hP 41 _ rfl
  | 12, _, hq => cases hq; exact hP 42 _ rfl
  | 13, _, hq => cases hq; exact hP 43 _ rfl
  | 14, _, hq => cases hq; exact hP 44 _ rfl
  | k + 15, h, _ => exact absurd h (by omega)
set_option maxRecDepth 100000 in
set_option maxHeartbeats 4000000 in
theorem st_p3 (hP : va_P G vwCl (stL ca h0 u h1 v h2) H) (j : Nat) (hj : j < 15) (q : Nat × va_E) (hq : (wsOf (S0 G ca kK kV fm h0 u h1 v h2) w0)[45 + j]? = some q) : va_at G vwCl q H := by
  match j, hj, hq with
  | 0, _, hq => cases hq; exact hP 45 _ rfl
  | 1, _, hq => cases hq; exact hP 46 _ rfl
  | 2, _, hq => cases hq; exact hP 47 _ rfl
  | 3, _, hq => cases hq; exact hP 48 _ rfl
  | 4, _, hq => cases hq; exact hP 49 _ rfl
  | 5, _, hq => cases hq; exact hP 50 _ rfl
  | 6, _, hq => cases hq; exact hP 51 _ rfl
  | 7, _, hq => cases hq; exact hP 52 _ rfl
  | 8, _, hq => cases hq; exact hP 53 _ rfl
  | 9, _, hq => cases hq; exact hP 54 _ rfl
  | 10, _, hq => cases hq; exact hP 55 _ rfl
  | 11, _, hq => cases hq; exact hP 56 _ rfl
  | 12, _, hq => cases hq; exact hP 57 _ rfl
  | 13, _, hq => cases hq; exact hP 58 _ rfl
  | 14, _, hq => cases hq; exact hP 59 _ rfl
  | k + 15, h, _ => exact absurd h (by omega)
set_option maxRecDepth 100000 in
set_option maxHeartbeats 4000000 in
theorem st_p4 (hP : va_P G vwCl (stL ca h0 u h1 v h2) H) (j : Nat) (hj : j < 15) (q : Nat × va_E) (hq : (wsOf (S0 G ca kK kV fm h0 u h1 v h2) w0)[60 + j]? = some q) : va_at G vwCl q H := by
  match j, hj, hq with
  | 0, _, hq => cases hq; exact hP 60 _ rfl
  | 1, _, hq => cases hq; exact st_B (hP 61 _ rfl) st_f61
  | 2, _, hq => cases hq; exact hP 62 _ rfl
  | 3, _, hq => cases hq; exact st_B (hP 63 _ rfl) st_f63
  | 4, _, hq => cases hq; exact hP 64 _ rfl
  | 5, _, hq => cases hq; exact hP 65 _ rfl
  | 6, _, hq => cases hq; exact hP 66 _ rfl
  | 7, _, hq => cases hq; exact hP 67 _ rfl
  | 8, _, hq => cases hq; exact hP 68 _ rfl
  | 9, _, hq => cases hq; exact hP 69 _ rfl
  | 10, _, hq => cases hq; exact hP 70 _ rfl
  | 11, _, hq => cases hq; exact hP 71 _ rfl
  | 12, _, hq => cases hq; exact hP 72 _ rfl
  | 13, _, hq => cases hq; exact hP 73 _ rfl
  | 14, _, hq => cases hq; exact hP 74 _ rfl
  | k + 15, h, _ => exact absurd h (by omega)
set_option maxRecDepth 100000 in
set_option maxHeartbeats 4000000 in
theorem st_p5 (hP : va_P G vwCl (stL ca h0 u h1 v h2) H) (j : Nat) (hj : j < 15) (q : Nat × va_E) (hq : (wsOf (S0 G ca kK kV fm h0 u h1 v h2) w0)[75 + j]? = some q) : va_at G vwCl q H := by
  match j, hj, hq with
  | 0, _, hq => cases hq; exact hP 75 _ rfl
  | 1, _, hq => cases hq; exact hP 76 _ rfl
  | 2, _, hq => cases hq; exact hP 77 _ rfl
  | 3, _, hq => cases hq; exact hP 78 _ rfl
  | 4, _, hq => cases hq; exact hP 79 _ rfl
  | 5, _, hq => cases hq; exact hP 80 _ rfl
  | 6, _, hq => cases hq; exact hP 81 _ rfl
  | 7, _, hq => cases hq; exact hP 82 _ rfl
  | 8, _, hq => cases hq; exact hP 83 _ rfl
  | 9, _, hq => cases hq; exact hP 84 _ rfl
  | 10, _, hq => cases hq; exact hP 85 _ rfl
  | 11, _, hq => cases hq; exact hP 86 _ rfl
  | 12, _, hq => cases hq; exact hP 87 _ rfl
  | 13, _, hq => cases hq; exact hP 88 _ rfl
  | 14, _, hq => cases hq; exact hP 89 _ rfl
  | k + 15, h, _ => exact absurd h (by omega)
set_option maxRecDepth 100000 in
set_option maxHeartbeats 4000000 in
theorem st_p6 (hP : va_P G vwCl (stL ca h0 u h1 v h2) H) (j : Nat) (hj : j < 15) (q : Nat × va_E) (hq : (wsOf (S0 G ca kK kV fm h0 u h1 v h2) w0)[90 + j]? = some q) : va_at G vwCl q H := by
  match j, hj, hq with
  | 0, _, hq => cases hq; exact hP 90 _ rfl
  | 1, _, hq => cases hq; exact hP 91 _ rfl
  | 2, _, hq => cases hq; exact hP 92 _ rfl
  | 3, _, hq => cases hq; exact hP 93 _ rfl
  | 4, _, hq => cases hq; exact hP 94 _ rfl
  | 5, _, hq => cases hq; exact hP 95 _ rfl
  | 6, _, hq => cases hq; exact hP 96 _ rfl
  | 7, _, hq => cases hq; exact hP 97 _ rfl
  | 8, _, hq => cases hq; exact hP 98 _ rfl
  | 9, _, hq => cases hq; exact hP 99 _ rfl
  | 10, _, hq => cases hq; exact hP 100 _ rfl
  | 11, _, hq => cases hq; exact hP 101 _ rfl
  | 12, _, hq => cases hq; exact hP 102 _ rfl
  | 13, _, hq => cases hq; exact hP 103 _ rfl
  | 14, _, hq => cases hq; exact hP 104 _ rfl
  | k + 15, h, _ => exact absurd h (by omega)
set_option maxRecDepth 100000 in
set_option maxHeartbeats 4000000 in
theorem st_p7 (hP : va_P G vwCl (stL ca h0 u h1 v h2) H) (j : Nat) (hj : j < 15) (q : Nat × va_E) (hq : (wsOf (S0 G ca kK kV fm h0 u h1 v h2) w0)[105 + j]? = some q) : va_at G vwCl q H := by
  match j, hj, hq with
  | 0, _, hq => cases hq; exact hP 105 _ rfl
  | 1, _, hq => cases hq; exact hP 106 _ rfl
  | 2, _, hq => cases hq; exact hP 107 _ rfl
  | 3, _, hq => cases hq; exact hP 108 _ rfl
  | 4, _, hq => cases hq; exact hP 109 _ rfl
  | 5, _, hq => cases hq; exact hP 110 _ rfl
  | 6, _, hq => cases hq; exact hP 111 _ rfl
  | 7, _, hq => cases hq; exact hP 112 _ rfl
  | 8, _, hq => cases hq; exact hP 113 _ rfl
  | 9, _, hq => cases hq; exact hP 114 _ rfl
  | 10, _, hq => cases hq; exact hP 115 _ rfl
  | 11, _, hq => cases hq; exact hP 116 _ rfl
  | 12, _, hq => cases hq; exact hP 117 _ rfl
  | 13, _, hq => cases hq; exact hP 118 _ rfl
  | 14, _, hq => cases hq; exact hP 119 _ rfl
  | k + 15, h, _ => exact absurd h (by omega)
theorem st_P (hP : va_P G vwCl (stL ca h0 u h1 v h2) H) : va_P G vwCl (wsOf (S0 G ca kK kV fm h0 u h1 v h2) w0) H := by
  intro k q hq
  have hk : k < 120 := by have := (List.getElem?_eq_some_iff.mp hq).1; unfold wsOf at this; rw [List.length_mapIdx] at this; exact this
  by_cases c0 : k < 15
  · obtain ⟨j, rfl⟩ : ∃ j, k = 0 + j := ⟨k - 0, by omega⟩
    exact st_p0 hP j (by omega) q hq
  by_cases c1 : k < 30
  · obtain ⟨j, rfl⟩ : ∃ j, k = 15 + j := ⟨k - 15, by omega⟩
    exact st_p1 hP j (by omega) q hq
  by_cases c2 : k < 45
  · obtain ⟨j, rfl⟩ : ∃ j, k = 30 + j := ⟨k - 30, by omega⟩
    exact st_p2 hP j (by omega) q hq
  by_cases c3 : k < 60
  · obtain ⟨j, rfl⟩ : ∃ j, k = 45 + j := ⟨k - 45, by omega⟩
    exact st_p3 hP j (by omega) q hq
  by_cases c4 : k < 75
  · obtain ⟨j, rfl⟩ : ∃ j, k = 60 + j := ⟨k - 60, by omega⟩
    exact st_p4 hP j (by omega) q hq
  by_cases c5 : k < 90
  · obtain ⟨j, rfl⟩ : ∃ j, k = 75 + j := ⟨k - 75, by omega⟩
    exact st_p5 hP j (by omega) q hq
  by_cases c6 : k < 105
  · obtain ⟨j, rfl⟩ : ∃ j, k = 90 + j := ⟨k - 90, by omega⟩
    exact st_p6 hP j (by omega) q hq
  by_cases c7 : k < 120
  · obtain ⟨j, rfl⟩ : ∃ j, k = 105 + j := ⟨k - 105, by omega⟩
    exact st_p7 hP j (by omega) q hq
  exact absurd hk (by omega)
set_option maxRecDepth 100000 in
theorem st_ad : (stL ca h0 u h1 v h2).map Prod.fst = adL h0 u h1 v h2 := rfl
theorem adL_len : (adL h0 u h1 v h2).length = 120 := rfl
theorem st_adr (i : Nat) (hi : i < 120) : (adL h0 u h1 v h2)[i]? = some (adr (S0 G ca kK kV fm h0 u h1 v h2) i) := by
  show _ = some ((adL h0 u h1 v h2).getD i 0)
  rw [List.getD_eq_getElem?_getD, List.getElem?_eq_getElem (by rw [adL_len]; exact hi)]
  rfl
theorem st_inj {A : Nat → Prop} (hD : va_D A (stL ca h0 u h1 v h2)) (i j : Nat) (hi : i < NC) (hj : j < NC) (e : adr (S0 G ca kK kV fm h0 u h1 v h2) i = adr (S0 G ca kK kV fm h0 u h1 v h2) j) : i = j := by
  have key : ∀ i, i < 120 → ∃ q, (stL ca h0 u h1 v h2)[i]? = some q ∧ q.1 = adr (S0 G ca kK kV fm h0 u h1 v h2) i := fun i hi => by
    have h := st_adr (G := G) (ca := ca) (kK := kK) (kV := kV) (fm := fm) (h0 := h0) (u := u) (h1 := h1) (v := v) (h2 := h2) i hi
    rw [← st_ad (ca := ca), List.getElem?_map] at h
    cases hq : (stL ca h0 u h1 v h2)[i]? with
    | none => rw [hq] at h; cases h
    | some q => rw [hq] at h; exact ⟨q, rfl, Option.some.inj h⟩
  obtain ⟨p, hp, ep⟩ := key i hi
  obtain ⟨q, hq, eq⟩ := key j hj
  exact hD.1 i j p q hp hq (by rw [ep, eq]; exact e)
theorem st_in {A : Nat → Prop} (hD : va_D A (stL ca h0 u h1 v h2)) (q : Nat) (h : Aw (S0 G ca kK kV fm h0 u h1 v h2) q) : A q := by
  obtain ⟨i, hi, rfl⟩ := h
  have h := st_adr (G := G) (ca := ca) (kK := kK) (kV := kV) (fm := fm) (h0 := h0) (u := u) (h1 := h1) (v := v) (h2 := h2) i hi
  rw [← st_ad (ca := ca), List.getElem?_map] at h
  cases hq : (stL ca h0 u h1 v h2)[i]? with
  | none => rw [hq] at h; cases h
  | some z =>
    rw [hq] at h
    have e := Option.some.inj h
    rw [← e]
    exact hD.2 i z hq
end START
