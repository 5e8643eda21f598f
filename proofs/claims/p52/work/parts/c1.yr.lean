-- ===== the rules that the bench may tell =====
def ruB (r : Nat) : List Int32 := bytS.getD (ruK r) []
def ruT (r : Nat) : Nat → Int32 := fun k => (ruB r).getD k 0
def ruM (r : Nat) : List Int32 := [[], [2004, 2005, 2, 1001, 2005, 8, 1000], [2004, 1001, 2004, 2005, 3, 1003, 2005, 6, 2005, 1002, 1000], [2004, 1001, 2004, 1004, 2003, 1000, 2006, 5, 1005], [2004, 1001, 2004, 1006, 2005, 9, 1000], [2004, 1004, 2005, 1000, 2000, 20, 1001], [2004, 1003, 2004, 1001, 2005, 1000, 1000], [2003, 1002, 2004, 2005, 2, 1003, 2004, 1001, 40]].getD r []
set_option maxRecDepth 100000 in
theorem ru_ok : ∀ r, r < 8 → wtU (ruT r) (ruB r).length = 0 ∧ (wU (ruT r) (ruB r).length).2.1 ≤ min (ruB r).length 40 ∧ (wU (ruT r) (ruB r).length).2.2 = ruM r := by decide +kernel
/-- the stack, from its foot -/
def Sta (q : (Nat → Int32) × Nat) (L : List Int32) : Prop := q.2 = L.length ∧ ∀ i, i < L.length → q.1 i = L.getD i 0
theorem Sta_push {v : Nat → Int32} {q : (Nat → Int32) × Nat} {L : List Int32} (c : Int32) (x : Int32) (h : Sta q L) (h1 : ¬ c = 3000) (h2 : ¬ 2000 ≤ c) (hx : (if 1000 ≤ c then v (c - 1000).toNatClampNeg else c) = x) : Sta (stpv v c q) (L ++ [x]) := by
  unfold stpv
  rw [if_neg h1, if_neg h2, hx]
  refine ⟨by show q.2 + 1 = _; rw [h.1, List.length_append]; rfl, fun i hi => ?_⟩
  rw [List.length_append] at hi
  have hi : i < L.length + 1 := hi
  show (if i = q.2 then x else q.1 i) = _
  rw [h.1, List.getD_eq_getElem?_getD]
  by_cases c : i = L.length
  · rw [if_pos c, c, List.getElem?_append_right (Nat.le_refl _), Nat.sub_self]; rfl
  · rw [if_neg c, h.2 i (by omega), List.getElem?_append_left (by omega), ← List.getD_eq_getElem?_getD]
theorem Sta_op {v : Nat → Int32} {q : (Nat → Int32) × Nat} {L : List Int32} {a b : Int32} (c : Int32) (x : Int32) (h : Sta q (L ++ [a, b])) (h1 : ¬ c = 3000) (h2 : 2000 ≤ c) (hx : opv c a b = x) : Sta (stpv v c q) (L ++ [x]) := by
  have e2 : q.2 = L.length + 2 := by rw [h.1, List.length_append]; rfl
  have ea : q.1 L.length = a := by rw [h.2 _ (by rw [List.length_append]; show _ < _ + 2; omega), List.getD_eq_getElem?_getD, List.getElem?_append_right (Nat.le_refl _), Nat.sub_self]; rfl
  have eb : q.1 (L.length + 1) = b := by rw [h.2 _ (by rw [List.length_append]; show _ < _ + 2; omega), List.getD_eq_getElem?_getD, List.getElem?_append_right (Nat.le_add_right _ _), Nat.add_sub_cancel_left]; rfl
  unfold stpv
  rw [if_neg h1, if_pos h2, e2, show L.length + 2 - 2 = L.length by omega, show L.length + 2 - 1 = L.length + 1 by omega, ea, eb, hx]
  refine ⟨by show L.length + 1 = _; rw [List.length_append]; rfl, fun i hi => ?_⟩
  rw [List.length_append] at hi
  have hi : i < L.length + 1 := hi
  show (if i = L.length then x else q.1 i) = _
  rw [List.getD_eq_getElem?_getD]
  by_cases c : i = L.length
  · rw [if_pos c, c, List.getElem?_append_right (Nat.le_refl _), Nat.sub_self]; rfl
  · rw [if_neg c, h.2 i (by rw [List.length_append]; omega), List.getD_eq_getElem?_getD, List.getElem?_append_left (by omega), List.getElem?_append_left (by omega)]
theorem op_0 (a b : Int32) : opv 2000 a b = if b ≤ a then 0 else 1 := by unfold opv; rw [if_pos rfl]
theorem op_3 (a b : Int32) : opv 2003 a b = a + b := by unfold opv; rw [if_neg (by decide), if_neg (by decide), if_neg (by decide), if_pos rfl]
theorem op_4 (a b : Int32) : opv 2004 a b = a - b := by unfold opv; rw [if_neg (by decide), if_neg (by decide), if_neg (by decide), if_neg (by decide), if_pos rfl]
theorem op_5 (a b : Int32) : opv 2005 a b = a * b := by unfold opv; rw [if_neg (by decide), if_neg (by decide), if_neg (by decide), if_neg (by decide), if_neg (by decide), if_pos rfl]
theorem op_6 (a b : Int32) : opv 2006 a b = if b = 0 then 0 else a / b := by unfold opv; rw [if_neg (by decide), if_neg (by decide), if_neg (by decide), if_neg (by decide), if_neg (by decide), if_neg (by decide)]
theorem runv_congr (v : Nat → Int32) {f g : Nat → Int32} : ∀ n, (∀ k, k < n → f k = g k) → runv v f n = runv v g n := by
  intro n
  induction n with
  | zero => intro _; rfl
  | succ n ih => intro h; rw [runv, runv, ih (fun k hk => h k (by omega)), h n (by omega)]
set_option maxRecDepth 100000 in
theorem rv_1 (s t c w f st m : Int32) : (runv (vals s t c w f st m) (cdL (ruM 1)) 7).1 0 = (s * 8) - (t * 2) := by
  have s0 : Sta (runv (vals s t c w f st m) (cdL [2004, 2005, 2, 1001, 2005, 8, 1000]) 0) [] := ⟨rfl, fun i hi => absurd hi (Nat.not_lt_zero _)⟩
  have s1 : Sta (runv (vals s t c w f st m) (cdL [2004, 2005, 2, 1001, 2005, 8, 1000]) 1) [s] := Sta_push (L := []) 1000 s s0 (by decide) (by decide) rfl
  have s2 : Sta (runv (vals s t c w f st m) (cdL [2004, 2005, 2, 1001, 2005, 8, 1000]) 2) [s, 8] := Sta_push (L := [s]) 8 8 s1 (by decide) (by decide) rfl
  have s3 : Sta (runv (vals s t c w f st m) (cdL [2004, 2005, 2, 1001, 2005, 8, 1000]) 3) [s * 8] := Sta_op (L := []) 2005 (s * 8) s2 (by decide) (by decide) (op_5 _ _)
  have s4 : Sta (runv (vals s t c w f st m) (cdL [2004, 2005, 2, 1001, 2005, 8, 1000]) 4) [s * 8, t] := Sta_push (L := [s * 8]) 1001 t s3 (by decide) (by decide) rfl
  have s5 : Sta (runv (vals s t c w f st m) (cdL [2004, 2005, 2, 1001, 2005, 8, 1000]) 5) [s * 8, t, 2] := Sta_push (L := [s * 8, t]) 2 2 s4 (by decide) (by decide) rfl
  have s6 : Sta (runv (vals s t c w f st m) (cdL [2004, 2005, 2, 1001, 2005, 8, 1000]) 6) [s * 8, t * 2] := Sta_op (L := [s * 8]) 2005 (t * 2) s5 (by decide) (by decide) (op_5 _ _)
  have s7 : Sta (runv (vals s t c w f st m) (cdL [2004, 2005, 2, 1001, 2005, 8, 1000]) 7) [(s * 8) - (t * 2)] := Sta_op (L := []) 2004 ((s * 8) - (t * 2)) s6 (by decide) (by decide) (op_4 _ _)
  exact s7.2 0 (Nat.zero_lt_succ _)
set_option maxRecDepth 100000 in
theorem rv_2 (s t c w f st m : Int32) : (runv (vals s t c w f st m) (cdL (ruM 2)) 11).1 0 = (((s * c) * 6) - (w * 3)) - t := by
  have s0 : Sta (runv (vals s t c w f st m) (cdL [2004, 1001, 2004, 2005, 3, 1003, 2005, 6, 2005, 1002, 1000]) 0) [] := ⟨rfl, fun i hi => absurd hi (Nat.not_lt_zero _)⟩
  have s1 : Sta (runv (vals s t c w f st m) (cdL [2004, 1001, 2004, 2005, 3, 1003, 2005, 6, 2005, 1002, 1000]) 1) [s] := Sta_push (L := []) 1000 s s0 (by decide) (by decide) rfl
  have s2 : Sta (runv (vals s t c w f st m) (cdL [2004, 1001, 2004, 2005, 3, 1003, 2005, 6, 2005, 1002, 1000]) 2) [s, c] := Sta_push (L := [s]) 1002 c s1 (by decide) (by decide) rfl
  have s3 : Sta (runv (vals s t c w f st m) (cdL [2004, 1001, 2004, 2005, 3, 1003, 2005, 6, 2005, 1002, 1000]) 3) [s * c] := Sta_op (L := []) 2005 (s * c) s2 (by decide) (by decide) (op_5 _ _)
  have s4 : Sta (runv (vals s t c w f st m) (cdL [2004, 1001, 2004, 2005, 3, 1003, 2005, 6, 2005, 1002, 1000]) 4) [s * c, 6] := Sta_push (L := [s * c]) 6 6 s3 (by decide) (by decide) rfl
  have s5 : Sta (runv (vals s t c w f st m) (cdL [2004, 1001, 2004, 2005, 3, 1003, 2005, 6, 2005, 1002, 1000]) 5) [(s * c) * 6] := Sta_op (L := []) 2005 ((s * c) * 6) s4 (by decide) (by decide) (op_5 _ _)
  have s6 : Sta (runv (vals s t c w f st m) (cdL [2004, 1001, 2004, 2005, 3, 1003, 2005, 6, 2005, 1002, 1000]) 6) [(s * c) * 6, w] := Sta_push (L := [(s * c) * 6]) 1003 w s5 (by decide) (by decide) rfl
  have s7 : Sta (runv (vals s t c w f st m) (cdL [2004, 1001, 2004, 2005, 3, 1003, 2005, 6, 2005, 1002, 1000]) 7) [(s * c) * 6, w, 3] := Sta_push (L := [(s * c) * 6, w]) 3 3 s6 (by decide) (by decide) rfl
  have s8 : Sta (runv (vals s t c w f st m) (cdL [2004, 1001, 2004, 2005, 3, 1003, 2005, 6, 2005, 1002, 1000]) 8) [(s * c) * 6, w * 3] := Sta_op (L := [(s * c) * 6]) 2005 (w * 3) s7 (by decide) (by decide) (op_5 _ _)
  have s9 : Sta (runv (vals s t c w f st m) (cdL [2004, 1001, 2004, 2005, 3, 1003, 2005, 6, 2005, 1002, 1000]) 9) [((s * c) * 6) - (w * 3)] := Sta_op (L := []) 2004 (((s * c) * 6) - (w * 3)) s8 (by decide) (by decide) (op_4 _ _)
  have s10 : Sta (runv (vals s t c w f st m) (cdL [2004, 1001, 2004, 2005, 3, 1003, 2005, 6, 2005, 1002, 1000]) 10) [((s * c) * 6) - (w * 3), t] := Sta_push (L := [((s * c) * 6) - (w * 3)]) 1001 t s9 (by decide) (by decide) rfl
  have s11 : Sta (runv (vals s t c w f st m) (cdL [2004, 1001, 2004, 2005, 3, 1003, 2005, 6, 2005, 1002, 1000]) 11) [(((s * c) * 6) - (w * 3)) - t] := Sta_op (L := []) 2004 ((((s * c) * 6) - (w * 3)) - t) s10 (by decide) (by decide) (op_4 _ _)
  exact s11.2 0 (Nat.zero_lt_succ _)
set_option maxRecDepth 100000 in
theorem rv_3 (s t c w f st m : Int32) : (runv (vals s t c w f st m) (cdL (ruM 3)) 9).1 0 = (((if (5 : Int32) = 0 then 0 else st / 5) + s) - f) - t := by
  have s0 : Sta (runv (vals s t c w f st m) (cdL [2004, 1001, 2004, 1004, 2003, 1000, 2006, 5, 1005]) 0) [] := ⟨rfl, fun i hi => absurd hi (Nat.not_lt_zero _)⟩
  have s1 : Sta (runv (vals s t c w f st m) (cdL [2004, 1001, 2004, 1004, 2003, 1000, 2006, 5, 1005]) 1) [st] := Sta_push (L := []) 1005 st s0 (by decide) (by decide) rfl
  have s2 : Sta (runv (vals s t c w f st m) (cdL [2004, 1001, 2004, 1004, 2003, 1000, 2006, 5, 1005]) 2) [st, 5] := Sta_push (L := [st]) 5 5 s1 (by decide) (by decide) rfl
  have s3 : Sta (runv (vals s t c w f st m) (cdL [2004, 1001, 2004, 1004, 2003, 1000, 2006, 5, 1005]) 3) [(if (5 : Int32) = 0 then 0 else st / 5)] := Sta_op (L := []) 2006 (if (5 : Int32) = 0 then 0 else st / 5) s2 (by decide) (by decide) (op_6 _ _)
  have s4 : Sta (runv (vals s t c w f st m) (cdL [2004, 1001, 2004, 1004, 2003, 1000, 2006, 5, 1005]) 4) [(if (5 : Int32) = 0 then 0 else st / 5), s] := Sta_push (L := [(if (5 : Int32) = 0 then 0 else st / 5)]) 1000 s s3 (by decide) (by decide) rfl
  have s5 : Sta (runv (vals s t c w f st m) (cdL [2004, 1001, 2004, 1004, 2003, 1000, 2006, 5, 1005]) 5) [(if (5 : Int32) = 0 then 0 else st / 5) + s] := Sta_op (L := []) 2003 ((if (5 : Int32) = 0 then 0 else st / 5) + s) s4 (by decide) (by decide) (op_3 _ _)
  have s6 : Sta (runv (vals s t c w f st m) (cdL [2004, 1001, 2004, 1004, 2003, 1000, 2006, 5, 1005]) 6) [(if (5 : Int32) = 0 then 0 else st / 5) + s, f] := Sta_push (L := [(if (5 : Int32) = 0 then 0 else st / 5) + s]) 1004 f s5 (by decide) (by decide) rfl
  have s7 : Sta (runv (vals s t c w f st m) (cdL [2004, 1001, 2004, 1004, 2003, 1000, 2006, 5, 1005]) 7) [((if (5 : Int32) = 0 then 0 else st / 5) + s) - f] := Sta_op (L := []) 2004 (((if (5 : Int32) = 0 then 0 else st / 5) + s) - f) s6 (by decide) (by decide) (op_4 _ _)
  have s8 : Sta (runv (vals s t c w f st m) (cdL [2004, 1001, 2004, 1004, 2003, 1000, 2006, 5, 1005]) 8) [((if (5 : Int32) = 0 then 0 else st / 5) + s) - f, t] := Sta_push (L := [((if (5 : Int32) = 0 then 0 else st / 5) + s) - f]) 1001 t s7 (by decide) (by decide) rfl
  have s9 : Sta (runv (vals s t c w f st m) (cdL [2004, 1001, 2004, 1004, 2003, 1000, 2006, 5, 1005]) 9) [(((if (5 : Int32) = 0 then 0 else st / 5) + s) - f) - t] := Sta_op (L := []) 2004 ((((if (5 : Int32) = 0 then 0 else st / 5) + s) - f) - t) s8 (by decide) (by decide) (op_4 _ _)
  exact s9.2 0 (Nat.zero_lt_succ _)
set_option maxRecDepth 100000 in
theorem rv_4 (s t c w f st m : Int32) : (runv (vals s t c w f st m) (cdL (ruM 4)) 7).1 0 = ((s * 9) - m) - t := by
  have s0 : Sta (runv (vals s t c w f st m) (cdL [2004, 1001, 2004, 1006, 2005, 9, 1000]) 0) [] := ⟨rfl, fun i hi => absurd hi (Nat.not_lt_zero _)⟩
  have s1 : Sta (runv (vals s t c w f st m) (cdL [2004, 1001, 2004, 1006, 2005, 9, 1000]) 1) [s] := Sta_push (L := []) 1000 s s0 (by decide) (by decide) rfl
  have s2 : Sta (runv (vals s t c w f st m) (cdL [2004, 1001, 2004, 1006, 2005, 9, 1000]) 2) [s, 9] := Sta_push (L := [s]) 9 9 s1 (by decide) (by decide) rfl
  have s3 : Sta (runv (vals s t c w f st m) (cdL [2004, 1001, 2004, 1006, 2005, 9, 1000]) 3) [s * 9] := Sta_op (L := []) 2005 (s * 9) s2 (by decide) (by decide) (op_5 _ _)
  have s4 : Sta (runv (vals s t c w f st m) (cdL [2004, 1001, 2004, 1006, 2005, 9, 1000]) 4) [s * 9, m] := Sta_push (L := [s * 9]) 1006 m s3 (by decide) (by decide) rfl
  have s5 : Sta (runv (vals s t c w f st m) (cdL [2004, 1001, 2004, 1006, 2005, 9, 1000]) 5) [(s * 9) - m] := Sta_op (L := []) 2004 ((s * 9) - m) s4 (by decide) (by decide) (op_4 _ _)
  have s6 : Sta (runv (vals s t c w f st m) (cdL [2004, 1001, 2004, 1006, 2005, 9, 1000]) 6) [(s * 9) - m, t] := Sta_push (L := [(s * 9) - m]) 1001 t s5 (by decide) (by decide) rfl
  have s7 : Sta (runv (vals s t c w f st m) (cdL [2004, 1001, 2004, 1006, 2005, 9, 1000]) 7) [((s * 9) - m) - t] := Sta_op (L := []) 2004 (((s * 9) - m) - t) s6 (by decide) (by decide) (op_4 _ _)
  exact s7.2 0 (Nat.zero_lt_succ _)
set_option maxRecDepth 100000 in
theorem rv_5 (s t c w f st m : Int32) : (runv (vals s t c w f st m) (cdL (ruM 5)) 7).1 0 = ((if 20 ≤ t then 0 else 1) * s) - f := by
  have s0 : Sta (runv (vals s t c w f st m) (cdL [2004, 1004, 2005, 1000, 2000, 20, 1001]) 0) [] := ⟨rfl, fun i hi => absurd hi (Nat.not_lt_zero _)⟩
  have s1 : Sta (runv (vals s t c w f st m) (cdL [2004, 1004, 2005, 1000, 2000, 20, 1001]) 1) [t] := Sta_push (L := []) 1001 t s0 (by decide) (by decide) rfl
  have s2 : Sta (runv (vals s t c w f st m) (cdL [2004, 1004, 2005, 1000, 2000, 20, 1001]) 2) [t, 20] := Sta_push (L := [t]) 20 20 s1 (by decide) (by decide) rfl
  have s3 : Sta (runv (vals s t c w f st m) (cdL [2004, 1004, 2005, 1000, 2000, 20, 1001]) 3) [(if 20 ≤ t then 0 else 1)] := Sta_op (L := []) 2000 (if 20 ≤ t then 0 else 1) s2 (by decide) (by decide) (op_0 _ _)
  have s4 : Sta (runv (vals s t c w f st m) (cdL [2004, 1004, 2005, 1000, 2000, 20, 1001]) 4) [(if 20 ≤ t then 0 else 1), s] := Sta_push (L := [(if 20 ≤ t then 0 else 1)]) 1000 s s3 (by decide) (by decide) rfl
  have s5 : Sta (runv (vals s t c w f st m) (cdL [2004, 1004, 2005, 1000, 2000, 20, 1001]) 5) [(if 20 ≤ t then 0 else 1) * s] := Sta_op (L := []) 2005 ((if 20 ≤ t then 0 else 1) * s) s4 (by decide) (by decide) (op_5 _ _)
  have s6 : Sta (runv (vals s t c w f st m) (cdL [2004, 1004, 2005, 1000, 2000, 20, 1001]) 6) [(if 20 ≤ t then 0 else 1) * s, f] := Sta_push (L := [(if 20 ≤ t then 0 else 1) * s]) 1004 f s5 (by decide) (by decide) rfl
  have s7 : Sta (runv (vals s t c w f st m) (cdL [2004, 1004, 2005, 1000, 2000, 20, 1001]) 7) [((if 20 ≤ t then 0 else 1) * s) - f] := Sta_op (L := []) 2004 (((if 20 ≤ t then 0 else 1) * s) - f) s6 (by decide) (by decide) (op_4 _ _)
  exact s7.2 0 (Nat.zero_lt_succ _)
set_option maxRecDepth 100000 in
theorem rv_6 (s t c w f st m : Int32) : (runv (vals s t c w f st m) (cdL (ruM 6)) 7).1 0 = ((s * s) - t) - w := by
  have s0 : Sta (runv (vals s t c w f st m) (cdL [2004, 1003, 2004, 1001, 2005, 1000, 1000]) 0) [] := ⟨rfl, fun i hi => absurd hi (Nat.not_lt_zero _)⟩
  have s1 : Sta (runv (vals s t c w f st m) (cdL [2004, 1003, 2004, 1001, 2005, 1000, 1000]) 1) [s] := Sta_push (L := []) 1000 s s0 (by decide) (by decide) rfl
  have s2 : Sta (runv (vals s t c w f st m) (cdL [2004, 1003, 2004, 1001, 2005, 1000, 1000]) 2) [s, s] := Sta_push (L := [s]) 1000 s s1 (by decide) (by decide) rfl
  have s3 : Sta (runv (vals s t c w f st m) (cdL [2004, 1003, 2004, 1001, 2005, 1000, 1000]) 3) [s * s] := Sta_op (L := []) 2005 (s * s) s2 (by decide) (by decide) (op_5 _ _)
  have s4 : Sta (runv (vals s t c w f st m) (cdL [2004, 1003, 2004, 1001, 2005, 1000, 1000]) 4) [s * s, t] := Sta_push (L := [s * s]) 1001 t s3 (by decide) (by decide) rfl
  have s5 : Sta (runv (vals s t c w f st m) (cdL [2004, 1003, 2004, 1001, 2005, 1000, 1000]) 5) [(s * s) - t] := Sta_op (L := []) 2004 ((s * s) - t) s4 (by decide) (by decide) (op_4 _ _)
  have s6 : Sta (runv (vals s t c w f st m) (cdL [2004, 1003, 2004, 1001, 2005, 1000, 1000]) 6) [(s * s) - t, w] := Sta_push (L := [(s * s) - t]) 1003 w s5 (by decide) (by decide) rfl
  have s7 : Sta (runv (vals s t c w f st m) (cdL [2004, 1003, 2004, 1001, 2005, 1000, 1000]) 7) [((s * s) - t) - w] := Sta_op (L := []) 2004 (((s * s) - t) - w) s6 (by decide) (by decide) (op_4 _ _)
  exact s7.2 0 (Nat.zero_lt_succ _)
set_option maxRecDepth 100000 in
theorem rv_7 (s t c w f st m : Int32) : (runv (vals s t c w f st m) (cdL (ruM 7)) 9).1 0 = ((40 - t) - (w * 2)) + c := by
  have s0 : Sta (runv (vals s t c w f st m) (cdL [2003, 1002, 2004, 2005, 2, 1003, 2004, 1001, 40]) 0) [] := ⟨rfl, fun i hi => absurd hi (Nat.not_lt_zero _)⟩
  have s1 : Sta (runv (vals s t c w f st m) (cdL [2003, 1002, 2004, 2005, 2, 1003, 2004, 1001, 40]) 1) [40] := Sta_push (L := []) 40 40 s0 (by decide) (by decide) rfl
  have s2 : Sta (runv (vals s t c w f st m) (cdL [2003, 1002, 2004, 2005, 2, 1003, 2004, 1001, 40]) 2) [40, t] := Sta_push (L := [40]) 1001 t s1 (by decide) (by decide) rfl
  have s3 : Sta (runv (vals s t c w f st m) (cdL [2003, 1002, 2004, 2005, 2, 1003, 2004, 1001, 40]) 3) [40 - t] := Sta_op (L := []) 2004 (40 - t) s2 (by decide) (by decide) (op_4 _ _)
  have s4 : Sta (runv (vals s t c w f st m) (cdL [2003, 1002, 2004, 2005, 2, 1003, 2004, 1001, 40]) 4) [40 - t, w] := Sta_push (L := [40 - t]) 1003 w s3 (by decide) (by decide) rfl
  have s5 : Sta (runv (vals s t c w f st m) (cdL [2003, 1002, 2004, 2005, 2, 1003, 2004, 1001, 40]) 5) [40 - t, w, 2] := Sta_push (L := [40 - t, w]) 2 2 s4 (by decide) (by decide) rfl
  have s6 : Sta (runv (vals s t c w f st m) (cdL [2003, 1002, 2004, 2005, 2, 1003, 2004, 1001, 40]) 6) [40 - t, w * 2] := Sta_op (L := [40 - t]) 2005 (w * 2) s5 (by decide) (by decide) (op_5 _ _)
  have s7 : Sta (runv (vals s t c w f st m) (cdL [2003, 1002, 2004, 2005, 2, 1003, 2004, 1001, 40]) 7) [(40 - t) - (w * 2)] := Sta_op (L := []) 2004 ((40 - t) - (w * 2)) s6 (by decide) (by decide) (op_4 _ _)
  have s8 : Sta (runv (vals s t c w f st m) (cdL [2003, 1002, 2004, 2005, 2, 1003, 2004, 1001, 40]) 8) [(40 - t) - (w * 2), c] := Sta_push (L := [(40 - t) - (w * 2)]) 1002 c s7 (by decide) (by decide) rfl
  have s9 : Sta (runv (vals s t c w f st m) (cdL [2003, 1002, 2004, 2005, 2, 1003, 2004, 1001, 40]) 9) [((40 - t) - (w * 2)) + c] := Sta_op (L := []) 2003 (((40 - t) - (w * 2)) + c) s8 (by decide) (by decide) (op_3 _ _)
  exact s9.2 0 (Nat.zero_lt_succ _)
theorem ru_val {T T' : Tw} {r : Nat} (hr : r < 8) (nr : NewR T T' (wU (ruT r) (ruB r).length).2.2) : RuOk T' (nI r) := by
  rw [(ru_ok r hr).2.2] at nr
  obtain ⟨n1, n2, n3⟩ := nr
  intro s t c st no
  have key : ∀ l, (ruM r).length = l → 0 < l → l < 100 → valT T' s t c (T' 4 2) (T' 4 3) st (iremI no 60) = (runv (vals s t c (T' 4 2) (T' 4 3) st (iremI no 60)) (cdL (ruM r)) l).1 0 := fun l hl h0 h1 => by
    unfold valT
    rw [n2, hl, if_neg (nI_ne0 h0 (by omega)), nI_clamp (by omega), runv_congr _ l (fun k hk => n3 k (by omega))]
  match r, hr with
  | 0, _ =>
    unfold valT byI
    rw [if_pos (show nI 0 = 0 from rfl), if_pos (show T' 6 0 = 0 by rw [n2]; rfl)]
  | 1, _ => rw [key 7 rfl (by decide) (by decide), rv_1]; rfl
  | 2, _ => rw [key 11 rfl (by decide) (by decide), rv_2]; rfl
  | 3, _ => rw [key 9 rfl (by decide) (by decide), rv_3]; rfl
  | 4, _ => rw [key 7 rfl (by decide) (by decide), rv_4]; rfl
  | 5, _ =>
    rw [key 7 rfl (by decide) (by decide), rv_5]
    show (if t < 20 then s else 0) - _ = _
    by_cases h : t < 20
    · rw [if_pos h, if_neg (Int32.not_le.mpr h), Int32.one_mul]
    · rw [if_neg h, if_pos (Int32.not_lt.mp h), Int32.zero_mul]
  | 6, _ => rw [key 7 rfl (by decide) (by decide), rv_6]; rfl
  | 7, _ => rw [key 9 rfl (by decide) (by decide), rv_7]; rfl
  | n + 8, h => exact absurd h (by omega)
section KRULE
variable {F : Nat} {w : Wd} {T : Tw} {b : Bl} {r p K : Nat} {u : Us} {t : Nat → Int32} {n : Nat} {L : List Int64}
theorem k_rule (hF : 10000 ≤ F) (h : CJ w T b r p K u t n L) (hp : (wU t n).2.1 ≤ min n 40) (h0 : wtU t n = 0) (h40 : (wU t n).2.2.length ≤ 40) : ∃ w1 T1, P_X10_rule F w = some (0, w1) ∧ NewR T T1 (wU t n).2.2 ∧ CJ w1 T1 b r p (K + 7200) u t 0 L := by
  obtain ⟨N, c, f, kp, hC, hP⟩ := h
  obtain ⟨c1, c2, rfl, rfl, c5, c6, c7, c8, c9, c10, c11⟩ := id hC
  obtain ⟨p1, p2, p3, p4, p5, p6, p7⟩ := id hP
  have KK : K ≤ K + 7200 := by omega
  obtain ⟨w1, e1, fr, k0, x1, o1, s1, nr, nt⟩ := v_X10_rule (F := F) (by omega) c1 c2 c8 p7 hp
  have un : ∀ {b}, LwP b → b = 0 ∨ b = 1 ∨ b = 5 ∨ (12 ≤ b ∧ b ≤ 22) := fun {b} z => z
  have kc : KpC w1 kp := by
    obtain ⟨s, k1, k2, k3⟩ := c11
    exact ⟨s, k1, by rw [k0]; exact k2, fun i hi => ⟨(k3 i hi).1, fun b hb => by rw [bC_fr fr (fun z => by have := un z; omega) (fun z => by have := un z; omega)]; exact (k3 i hi).2 b hb⟩⟩
  have nr := nr h0
  rcases rf_wt t n c8.2.1 hp with ⟨-, -, r3, -, -⟩ | ⟨-, -, r3⟩
  · exact ⟨w1, tC w1 5, by rw [e1, h0], nr, (wU t n).2.2.length, c, f, kp, ⟨o1, s1, rfl, bC_fr fr (fun z => by have := un z; omega) (fun z => by have := un z; omega), by rw [(fr 6 (fun z => by have := un z; omega)).1]; exact c5, by rw [(fr 9 (fun z => by have := un z; omega)).1]; exact c6, PsC_fr c7 fr (fun b z => by have := un z; unfold PaC; omega), x1, Tl_fr c9 fr (fun b z => by have := un z; omega), NtC_fr c10 fr (fun b z => by have := un z; omega), kc⟩, ⟨okTw_new p1 nr (okR_ext (fun k hk => (nr.2.2 k hk).symm) (okSw_R _ (wU_ok r3) h40)), BlI_K p2 KK, fun x z => BlI_K (p3 x z) KK, fun i x z => BlI_K (p4 i x z) KK, p5, p6, fun k hk => absurd hk (Nat.not_lt_zero _)⟩⟩
  · rw [h0] at r3; exact absurd r3 (by decide)
end KRULE
