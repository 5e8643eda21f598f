-- ===== the class: who hears, who is moved; a minute; copies; what is told =====
theorem l_X5_hearing (F : Nat) (w : Wd) (v : Int32) (k : Wd → Int32 → Option (Int32 × Wd)) : ∀ m j, j + m = 8 → ∀ n, m < n → ∀ x, L_X5_hearing_4 F 9 v k n w x (nI j) = k w (x ||| orR (fun i => if gI w 9 2 ≤ nI i then 0 else if rol w 9 10 i ≤ v then bit1 i else 0) j m) := by
  intro m
  induction m with
  | zero =>
    intro j hj n hn x
    obtain ⟨n, rfl⟩ : ∃ q, n = q + 1 := ⟨n - 1, by omega⟩
    rw [L_X5_hearing_4, if_pos (n8le (by omega) (lt31 (by omega)))]
    show k w x = k w (x ||| 0)
    rw [or0]
  | succ m ih =>
    intro j hj n hn x
    obtain ⟨n, rfl⟩ : ∃ q, n = q + 1 := ⟨n - 1, by omega⟩
    have go : ∀ y, K_X5_hearing_33 F 9 v k (L_X5_hearing_4 F 9 v k n) w y (nI j) = k w (y ||| orR (fun i => if gI w 9 2 ≤ nI i then 0 else if rol w 9 10 i ≤ v then bit1 i else 0) (j + 1) m) := by
      intro y
      show L_X5_hearing_4 F 9 v k n w y (nI j + 1) = _
      rw [nI_1, ih (j + 1) (by omega) n (by omega)]
    rw [L_X5_hearing_4, if_neg (n8gt (by omega)), bnd_r (v_X5_has F w 9 j (by omega))]
    show _ = k w (x ||| ((if gI w 9 2 ≤ nI j then 0 else if rol w 9 10 j ≤ v then bit1 j else 0) ||| _))
    by_cases h1 : gI w 9 2 ≤ nI j
    · rw [if_pos h1, if_pos rfl, if_pos h1, zor]; exact go x
    · rw [if_neg h1, if_neg (show ¬ (1 : Int32) = 0 by decide), bnd_r (v_X5_firstOf F w 9 j (by omega)), if_neg h1]
      by_cases h2 : rol w 9 10 j ≤ v
      · rw [if_neg (Int32.not_lt.mpr h2), if_pos h2, lt_v, ← orA]; exact go _
      · rw [if_pos (Int32.not_le.mp h2), if_neg h2, zor]; exact go x
theorem v_X5_hearing {F : Nat} (hF : 100 ≤ F) (w : Wd) (t : Nat) (v : Int32) : P_X5_hearing F w 9 v = some (hearT (tC w t) v, w) := by
  refine (l_X5_hearing F w v _ 8 0 rfl F (by omega) 0).trans ?_
  show some (0 ||| _, w) = _
  rw [zor]; rfl
theorem l_X5_moved (F : Nat) (w : Wd) (d : Int32) (k : Wd → Int32 → Option (Int32 × Wd)) : ∀ m j, j + m = 8 → ∀ n, m < n → ∀ x, L_X5_moved_4 F 9 d k n w x (nI j) = k w (x ||| orR (fun i => if rol w 9 11 i = 0 then 0 else if rol w 9 11 i ≤ bc (d &&& (bit1 i ^^^ (-1))) then bit1 i else 0) j m) := by
  intro m
  induction m with
  | zero =>
    intro j hj n hn x
    obtain ⟨n, rfl⟩ : ∃ q, n = q + 1 := ⟨n - 1, by omega⟩
    rw [L_X5_moved_4, if_pos (n8le (by omega) (lt31 (by omega)))]
    show k w x = k w (x ||| 0)
    rw [or0]
  | succ m ih =>
    intro j hj n hn x
    obtain ⟨n, rfl⟩ : ∃ q, n = q + 1 := ⟨n - 1, by omega⟩
    have go : ∀ y, K_X5_moved_43 F 9 d k (L_X5_moved_4 F 9 d k n) w y (nI j) = k w (y ||| orR (fun i => if rol w 9 11 i = 0 then 0 else if rol w 9 11 i ≤ bc (d &&& (bit1 i ^^^ (-1))) then bit1 i else 0) (j + 1) m) := by
      intro y
      show L_X5_moved_4 F 9 d k n w y (nI j + 1) = _
      rw [nI_1, ih (j + 1) (by omega) n (by omega)]
    rw [L_X5_moved_4, if_neg (n8gt (by omega)), bnd_r (v_X5_secondOf F w 9 j (by omega))]
    show _ = k w (x ||| ((if rol w 9 11 j = 0 then 0 else if rol w 9 11 j ≤ bc (d &&& (bit1 j ^^^ (-1))) then bit1 j else 0) ||| _))
    by_cases h1 : rol w 9 11 j = 0
    · rw [if_pos h1, if_pos h1, zor]; exact go x
    · rw [if_neg h1, bnd_r (v_bc F w _), if_neg h1]
      show (if bc (d &&& (bit1 j ^^^ (-1))) < rol w 9 11 j then _ else _) = _
      by_cases h2 : rol w 9 11 j ≤ bc (d &&& (bit1 j ^^^ (-1)))
      · rw [if_neg (Int32.not_lt.mpr h2), if_pos h2, lt_v, ← orA]; exact go _
      · rw [if_pos (Int32.not_le.mp h2), if_neg h2, zor]; exact go x
theorem v_X5_moved {F : Nat} (hF : 100 ≤ F) (w : Wd) (t : Nat) (d : Int32) : P_X5_moved F w 9 d = some (movT (tC w t) d, w) := by
  refine (l_X5_moved F w d _ 8 0 rfl F (by omega) 0).trans ?_
  show some (0 ||| _, w) = _
  rw [zor]; rfl
theorem Kp_ring {a : Nat} (ha : 23 ≤ a) : Kp (fun b => Scr b ∨ b = a ∨ b = a + 1) := fun b hb => by
  rcases hb with h | h | h
  · exact .inr (.inl h)
  · omega
  · omega
theorem v_X9_minute {F : Nat} (hF : 100 ≤ F) (w : Wd) (t a : Nat) (ok : okT w t) (ha : 23 ≤ a) : ∃ w2, P_X9_minute F w t a = some w2 ∧ Fr (fun b => Scr b ∨ b = a ∨ b = a + 1) w w2 ∧ bC w2 a = mi (tC w t) (bC w a) := by
  obtain ⟨w1, e1, e2, e3⟩ := v_X9_ring hF w t a ok ha
  have et := tC_fr (Kp_ring ha) e2 ok
  refine ⟨sI w1 a 8 (gI w1 a 8 ||| (hearT (tC w1 t) (gI w1 a 5) ||| movT (tC w1 t) (gI w1 a 8))), ?_, e2.tr Fr.ofI (fun _ h => h) (fun _ h => .inr (.inl h)), ?_⟩
  · unfold P_X9_minute
    rw [bnd_r e1, bnd_r (v_X5_hearing hF w1 t _), bnd_r (v_X5_moved hF w1 t _)]
    rfl
  · have q12 : gI w1 a 5 = mi0 (tC w t) (bC w a) 12 := by rw [← e3]; rfl
    have q15 : gI w1 a 8 = bC w a 15 := by
      have : bC w1 a 15 = mi0 (tC w t) (bC w a) 15 := by rw [e3]
      exact this
    rw [et, q12, q15]
    funext k
    show _ = (if k = 15 then bC w a 15 ||| _ else mi0 (tC w t) (bC w a) k)
    rw [← e3]
    unfold bC
    by_cases h8 : k < 8
    · rw [if_pos h8, if_neg (show ¬ k = 15 by omega), if_pos h8, gI_sI, if_neg (by omega)]
    · rw [if_neg h8]
      by_cases h16 : k < 16
      · rw [if_pos h16, gI_sI, if_pos rfl]
        by_cases h15 : k = 15
        · subst h15; rfl
        · rw [if_neg (show ¬ k - 7 = 8 by omega), if_neg h15, if_neg h8, if_pos h16]
      · rw [if_neg h16, if_neg (show ¬ k = 15 by omega), if_neg h8, if_neg h16]
theorem l_X1_copy (F a1 a2 : Nat) (h12 : ¬ a2 + 1 = a1 + 1) (kk : Wd → Option Wd) : ∀ m j, j + m = 8 → ∀ n, m < n → ∀ w, ∃ w2, L_X1_copy_2 F a1 a2 kk n w (nI j) = kk w2 ∧ Fr (fun b => b = a1 + 1) w w2 ∧ ∀ k, gI w2 (a1 + 1) k = if j ≤ k ∧ k < 8 then gI w (a2 + 1) k else gI w (a1 + 1) k := by
  intro m
  induction m with
  | zero =>
    intro j hj n hn w
    obtain ⟨n, rfl⟩ : ∃ q, n = q + 1 := ⟨n - 1, by omega⟩
    rw [L_X1_copy_2, if_pos (n8le (by omega) (lt31 (by omega)))]
    exact ⟨w, rfl, Fr.rfl', fun k => by rw [if_neg (by omega)]⟩
  | succ m ih =>
    intro j hj n hn w
    obtain ⟨n, rfl⟩ : ∃ q, n = q + 1 := ⟨n - 1, by omega⟩
    rw [L_X1_copy_2, if_neg (n8gt (by omega)), gd_t (inB_n (show j < 8 by omega) (lt31 (by omega))), gd_t (inB_n (show j < 8 by omega) (lt31 (by omega))), lt_v, lt_v, nI_1, nI_clamp (lt31 (by omega))]
    obtain ⟨w2, e1, e2, e3⟩ := ih (j + 1) (by omega) n (by omega) (sI w (a1 + 1) j (gI w (a2 + 1) j))
    refine ⟨w2, e1, Fr.ofI.tr e2 (fun _ h => h) (fun _ h => h), fun k => ?_⟩
    rw [e3 k, gI_sI, if_neg h12, gI_sI, if_pos rfl]
    by_cases hk : j + 1 ≤ k ∧ k < 8
    · rw [if_pos hk, if_pos (show j ≤ k ∧ k < 8 by omega)]
    · rw [if_neg hk]
      by_cases hkj : k = j
      · subst hkj; rw [if_pos rfl, if_pos (show k ≤ k ∧ k < 8 by omega)]
      · rw [if_neg hkj, if_neg (show ¬ (j ≤ k ∧ k < 8) by omega)]
theorem v_X1_copy {F : Nat} (hF : 100 ≤ F) (w : Wd) (a1 a2 : Nat) (h1 : a1 ≠ a2) (h2 : a1 + 1 ≠ a2) (h3 : a2 + 1 ≠ a1) : ∃ w2, P_X1_copy F w a1 a2 = some w2 ∧ Fr (fun b => b = a1 ∨ b = a1 + 1) w w2 ∧ bC w2 a1 = bC w a2 := by
  obtain ⟨w1, e1, e2, e3⟩ := l_X1_copy F a1 a2 (by omega) (fun w  => lt (sI w a1 1 (gI w a2 1)) (fun w9 => lt (sI w9 a1 2 (gI w9 a2 2)) (fun w10 => lt (sI w10 a1 3 (gI w10 a2 3)) (fun w11 => lt (sI w11 a1 4 (gI w11 a2 4)) (fun w12 => lt (sI w12 a1 5 (gI w12 a2 5)) (fun w13 => lt (sI w13 a1 6 (gI w13 a2 6)) (fun w14 => lt (sI w14 a1 7 (gI w14 a2 7)) (fun w15 => lt (sI w15 a1 8 (gI w15 a2 8)) (fun w16 => some w16))))))))) 8 0 rfl F (by omega) w
  have ea : ∀ k, gI w1 a2 k = gI w a2 k := (e2 a2 (by omega)).1
  refine ⟨_, e1, ?_, ?_⟩
  · have st : ∀ (u : Wd) (k : Nat) (v : Int32), Fr (fun b => b = a1 ∨ b = a1 + 1) w u → Fr (fun b => b = a1 ∨ b = a1 + 1) w (sI u a1 k v) := fun u k v h => h.tr Fr.ofI (fun _ h => h) (fun _ h => .inl h)
    exact st _ _ _ (st _ _ _ (st _ _ _ (st _ _ _ (st _ _ _ (st _ _ _ (st _ _ _ (st _ _ _ (e2.imp (fun _ h => .inr h)))))))))
  · refine bC_ext (fun k hk => ?_) (fun k hk1 hk2 => ?_)
    · simp only [gI_sI, if_neg (show ¬ a1 + 1 = a1 by omega)]
      rw [e3 k, if_pos (show 0 ≤ k ∧ k < 8 by omega)]
    · rcases (show k = 1 ∨ k = 2 ∨ k = 3 ∨ k = 4 ∨ k = 5 ∨ k = 6 ∨ k = 7 ∨ k = 8 by omega) with rfl | rfl | rfl | rfl | rfl | rfl | rfl | rfl <;> simp [gI_sI, if_neg (Ne.symm h1), ea]
-- ===== what is told =====
def Tl (w : Wd) (L : List Int64) : Prop := gI w 3 1 = nI L.length ∧ ∀ k, k < L.length → gJ w 4 k = L.getD k 0
theorem v_X7_clear (F : Nat) (w : Wd) : ∃ w2, P_X7_clear F w = some w2 ∧ Fr (fun b => b = 3 ∨ b = 4) w w2 ∧ Tl w2 [] := ⟨_, rfl, Fr.ofI.imp (fun _ h => .inl h), by rw [gI_sI, if_pos rfl, if_pos rfl]; rfl, fun k hk => absurd hk (Nat.not_lt_zero _)⟩
theorem v_X7_add (F : Nat) (w : Wd) (L : List Int64) (h : Tl w L) (hL : L.length < 6) (x : Int64) : ∃ w2, P_X7_add F w x = some w2 ∧ Fr (fun b => b = 3 ∨ b = 4) w w2 ∧ Tl w2 (L ++ [x]) := by
  obtain ⟨h1, h2⟩ := h
  unfold P_X7_add
  rw [h1, if_neg (nI_pos (lt31 (by omega))), if_neg (show ¬ (6 : Int32) ≤ nI L.length from nI_ge (a := L.length) (b := 6) hL (by decide)), gd_t (inB_n hL (lt31 (by omega))), lt_v, lt_v, nI_clamp (lt31 (by omega))]
  refine ⟨_, rfl, (Fr.ofJ.imp (fun _ h => Or.inr h)).tr (Fr.ofI.imp (fun _ h => Or.inl h)) (fun _ h => h) (fun _ h => h), ?_, fun k hk => ?_⟩
  · rw [gI_sI, if_pos rfl, if_pos rfl, gI_sJ, h1, nI_1, List.length_append]; rfl
  · rw [List.length_append] at hk
    have hk2 : k < L.length + 1 := hk
    rw [gJ_sI, gJ_sJ, if_pos rfl]
    by_cases hkL : k = L.length
    · rw [if_pos hkL, hkL]; simp
    · rw [if_neg hkL, h2 k (by omega)]
      rw [List.getD_eq_getElem?_getD, List.getD_eq_getElem?_getD, List.getElem?_append_left (by omega)]
theorem v_X10_tell2 (F : Nat) (w : Wd) (x y : Int64) : ∃ w2, P_X10_tell F w x y = some w2 ∧ Fr (fun b => b = 3 ∨ b = 4) w w2 ∧ Tl w2 [x, y] := by
  obtain ⟨w1, a1, a2, a3⟩ := v_X7_clear F w
  obtain ⟨w2, b1, b2, b3⟩ := v_X7_add F w1 [] a3 (by decide) x
  obtain ⟨w3, c1, c2, c3⟩ := v_X7_add F w2 [x] b3 (show 1 < 6 by decide) y
  unfold P_X10_tell
  rw [bnv_r a1, bnv_r b1, bnv_r c1]
  exact ⟨w3, rfl, (a2.tr b2 (fun _ h => h) (fun _ h => h)).tr c2 (fun _ h => h) (fun _ h => h), c3⟩
-- ===== minutes thought of =====
/-- so many minutes, and how many of them are rung ahead of the first that is not -/
def rgo (T : Tw) : Nat → Bl → Nat × Bl
  | 0, b => (0, b)
  | n + 1, b => if loudT T b (b 8) ≤ 0 then (0, mi0 T b) else ((rgo T n (mi0 T b)).1 + 1, (rgo T n (mi0 T b)).2)
def setR (b : Bl) (s : Int32) : Bl := fun k => if k = 8 then s else b k
def SP (b : Nat) : Prop := Scr b ∨ (25 ≤ b ∧ b ≤ 28)
theorem bC_rope {w : Wd} {a : Nat} (s : Int32) : bC (sI w a 1 s) a = setR (bC w a) s := by
  funext k
  show bC (sI w a 1 s) a k = if k = 8 then s else bC w a k
  unfold bC
  by_cases h8 : k < 8
  · rw [if_pos h8, if_neg (show ¬ k = 8 by omega), if_pos h8, gI_sI, if_neg (by omega)]
  · rw [if_neg h8]
    by_cases h16 : k < 16
    · rw [if_pos h16, gI_sI, if_pos rfl]
      by_cases h : k = 8
      · subst h; rfl
      · rw [if_neg h, if_neg h8, if_pos h16, if_neg (show ¬ k - 7 = 1 by omega)]
    · rw [if_neg h16, if_neg (show ¬ k = 8 by omega), if_neg h8, if_neg h16]
