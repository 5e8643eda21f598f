-- ===== count, ringer, person, row =====
def qCount (r p : Nat) (b : Bl) (T : Tw) (c u l n : Nat) (x : Int32) : Int32 := if x = 0 then nI r else if x = 1 then nI p else if x = 2 then b 8 else if x = 3 then b 9 else if x = 4 then b 10 else if x = 5 then b 11 else if x = 6 then b 12 else if x = 7 then b 13 else if x = 8 then b 14 else if x = 9 then b 15 else if x = 10 then T 4 2 else if x = 11 then T 4 3 else if x = 12 then T 4 4 else if x = 13 then nI c else if x = 14 then nI u else if x = 15 then nI l else if x = 16 then nI n else -100
theorem v_X10_count (F : Nat) {w : Wd} {r p : Nat} {c u l n : Nat} (e0 : gI w 6 2 = nI r) (e1 : gI w 9 2 = nI p) (e2 : gI w 76 3 = nI c) (e3 : gI w 29 2 = nI u) (e4 : gI w 3 1 = nI l) (e5 : gI w 1 1 = nI n) (x : Int32) : P_X10_count F w x = some (qCount r p (bC w 23) (tC w 5) c u l n x, w) := by
  unfold P_X10_count P_X10_countFurther qCount
  rw [← e0, ← e1, ← e2, ← e3, ← e4, ← e5]
  by_cases c0 : x = 0
  · rw [if_pos c0, if_pos c0]
  rw [if_neg c0, if_neg c0]
  by_cases c1 : x = 1
  · rw [if_pos c1, if_pos c1]
  rw [if_neg c1, if_neg c1]
  by_cases c2 : x = 2
  · rw [if_pos c2, if_pos c2]; rfl
  rw [if_neg c2, if_neg c2]
  by_cases c3 : x = 3
  · rw [if_pos c3, if_pos c3]; rfl
  rw [if_neg c3, if_neg c3]
  by_cases c4 : x = 4
  · rw [if_pos c4, if_pos c4]; rfl
  rw [if_neg c4, if_neg c4]
  by_cases c5 : x = 5
  · rw [if_pos c5, if_pos c5]; rfl
  rw [if_neg c5, if_neg c5]
  by_cases c6 : x = 6
  · rw [if_pos c6, if_pos c6]; rfl
  rw [if_neg c6, if_neg c6]
  by_cases c7 : x = 7
  · rw [if_pos c7, if_pos c7]; rfl
  rw [if_neg c7, if_neg c7]
  by_cases c8 : x = 8
  · rw [if_pos c8, if_pos c8]; rfl
  rw [if_neg c8, if_neg c8]
  by_cases c9 : x = 9
  · rw [if_pos c9, if_pos c9]; rfl
  rw [if_neg c9, if_neg c9]
  by_cases c10 : x = 10
  · rw [if_pos c10, if_pos c10]; rfl
  rw [if_neg c10, if_neg c10]
  by_cases c11 : x = 11
  · rw [if_pos c11, if_pos c11]; rfl
  rw [if_neg c11, if_neg c11]
  by_cases c12 : x = 12
  · rw [if_pos c12, if_pos c12]; rfl
  rw [if_neg c12, if_neg c12]
  by_cases c13 : x = 13
  · rw [if_pos c13, if_pos c13]; rfl
  rw [if_neg c13, if_neg c13]
  by_cases c14 : x = 14
  · rw [if_pos c14, if_pos c14]; rfl
  rw [if_neg c14, if_neg c14]
  by_cases c15 : x = 15
  · rw [if_pos c15, if_pos c15]; rfl
  rw [if_neg c15, if_neg c15]
  by_cases c16 : x = 16
  · rw [if_pos c16, if_pos c16]; rfl
  rw [if_neg c16, if_neg c16]
  rfl
def qRg (T : Tw) (b : Bl) (r : Nat) (x y : Int32) : Option Int32 := if x < 0 then none else if nI r ≤ x then none else if y = 0 then some (T 0 x.toNatClampNeg) else if y = 1 then some (T 1 x.toNatClampNeg) else if y = 2 then some (b x.toNatClampNeg) else if y = 3 then some (bt (b 8) x.toNatClampNeg) else if y = 4 then some (loudT T b (bit1 x.toNatClampNeg)) else none
def qPe (T : Tw) (b : Bl) (p : Nat) (x y : Int32) : Option Int32 := if x < 0 then none else if nI p ≤ x then none else if y = 0 then some (T 2 x.toNatClampNeg) else if y = 1 then some (T 3 x.toNatClampNeg) else if y = 2 then some (bt (b 15) x.toNatClampNeg) else none
theorem bt_flag (s : Int32) (i : Nat) : (if bt s i = 0 then (0 : Int32) else 1) = bt s i := by
  rcases bt01 s i with h | h
  · rw [h]; rfl
  · rw [h]; rfl
theorem v_X10_ringer {F : Nat} (hF : 100 ≤ F) {w : Wd} (ok : okT w 5) {r : Nat} (hr : r ≤ 8) (er : gI w 6 2 = nI r) (x y : Int32) : ∃ w2, P_X10_ringer F w x y = some (qRg (tC w 5) (bC w 23) r x y, w2) ∧ Fr Scr w w2 := by
  unfold P_X10_ringer qRg
  rw [bnd_r (v_X5_hasx F w 6 x), er]
  rcases who hr x with h | h | ⟨i, hi, rfl⟩
  · rw [if_pos h, if_pos rfl, if_pos h]; exact ⟨w, rfl, Fr.rfl'⟩
  · by_cases h0 : x < 0
    · rw [if_pos h0, if_pos rfl, if_pos h0]; exact ⟨w, rfl, Fr.rfl'⟩
    · rw [if_neg h0, if_pos h, if_pos rfl, if_neg h0, if_pos h]; exact ⟨w, rfl, Fr.rfl'⟩
  · rw [if_neg (nI_pos (by omega)), if_neg (nI_ge hi (by omega)), if_neg (n8gt (by omega)), if_neg (show ¬ (1 : Int32) = 0 from by decide), if_neg (nI_pos (by omega)), if_neg (nI_ge hi (by omega)), nI_clamp (by omega)]
    by_cases y0 : y = 0
    · rw [if_pos y0, if_pos y0, bnd_r (v_X5_firstOf F w 6 i (by omega))]; exact ⟨w, rfl, Fr.rfl'⟩
    rw [if_neg y0, if_neg y0]
    by_cases y1 : y = 1
    · rw [if_pos y1, if_pos y1, bnd_r (v_X5_secondOf F w 6 i (by omega))]; exact ⟨w, rfl, Fr.rfl'⟩
    rw [if_neg y1, if_neg y1]
    by_cases y2 : y = 2
    · rw [if_pos y2, if_pos y2, bnd_r (v_X1_tiredOf F w 23 i (by omega))]
      refine ⟨w, ?_, Fr.rfl'⟩
      show some (some (gI w 24 i), w) = some (some (if i < 8 then gI w 24 i else _), w)
      rw [if_pos (by omega)]
    rw [if_neg y2, if_neg y2]
    by_cases y3 : y = 3
    · rw [if_pos y3, if_pos y3, bnd_r (v_X1_holdsx F w 23 i (by omega)), lt_v, bt_flag]; exact ⟨w, rfl, Fr.rfl'⟩
    rw [if_neg y3, if_neg y3]
    by_cases y4 : y = 4
    · obtain ⟨w2, a1, a2⟩ := v_X9_volume hF w 5 23 ok (ishlI 1 (nI i))
      rw [if_pos y4, if_pos y4, bnd_r a1]; exact ⟨w2, rfl, a2⟩
    · rw [if_neg y4, if_neg y4]; exact ⟨w, rfl, Fr.rfl'⟩
theorem v_X10_person (F : Nat) {w : Wd} {p : Nat} (hp : p ≤ 8) (ep : gI w 9 2 = nI p) (x y : Int32) : P_X10_person F w x y = some (qPe (tC w 5) (bC w 23) p x y, w) := by
  unfold P_X10_person qPe
  rw [bnd_r (v_X5_hasx F w 9 x), ep]
  rcases who hp x with h | h | ⟨i, hi, rfl⟩
  · rw [if_pos h, if_pos rfl, if_pos h]
  · by_cases h0 : x < 0
    · rw [if_pos h0, if_pos rfl, if_pos h0]
    · rw [if_neg h0, if_pos h, if_pos rfl, if_neg h0, if_pos h]
  · rw [if_neg (nI_pos (by omega)), if_neg (nI_ge hi (by omega)), if_neg (n8gt (by omega)), if_neg (show ¬ (1 : Int32) = 0 from by decide), if_neg (nI_pos (by omega)), if_neg (nI_ge hi (by omega)), nI_clamp (by omega)]
    by_cases y0 : y = 0
    · rw [if_pos y0, if_pos y0, bnd_r (v_X5_firstOf F w 9 i (by omega))]; rfl
    rw [if_neg y0, if_neg y0]
    by_cases y1 : y = 1
    · rw [if_pos y1, if_pos y1, bnd_r (v_X5_secondOf F w 9 i (by omega))]; rfl
    rw [if_neg y1, if_neg y1]
    by_cases y2 : y = 2
    · rw [if_pos y2, if_pos y2]; rfl
    · rw [if_neg y2, if_neg y2]
def qRow (L : List Int64) (x : Int32) : Option Int64 := if x < 0 then none else if nI L.length ≤ x then none else some (L.getD x.toNatClampNeg 0)
theorem v_X10_row (F : Nat) {w : Wd} {L : List Int64} (hL : L.length ≤ 6) (h : Tl w L) (x : Int32) : P_X10_row F w x = some (qRow L x, w) := by
  unfold P_X10_row qRow
  rw [h.1]
  by_cases h0 : x < 0
  · rw [if_pos h0, if_pos h0]; rfl
  rw [if_neg h0, if_neg h0]
  rcases who (r := L.length) (by omega) x with q | q | ⟨i, hi, rfl⟩
  · exact absurd q h0
  · rw [if_neg (Int32.not_lt.mpr q), if_pos q]; rfl
  · have e : P_X7_at F w (nI i) = some (L.getD i 0, w) := by
      unfold P_X7_at
      rw [if_neg h0, h.1, if_neg (nI_ge hi (by omega)), if_neg (show ¬ (6 : Int32) ≤ nI i from nI_ge (a := i) (b := 6) (by omega) (by decide)), gd_t (inB_n (by omega) (by omega)), nI_clamp (by omega), h.2 i hi]
    rw [if_pos (nI_lt hi (by omega)), if_neg (nI_ge hi (by omega)), nI_clamp (by omega), bnd_r e]
