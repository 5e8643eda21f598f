-- ===== the class: who hears, who is moved; a minute; copies; what is told =====
theorem l_X5_hearing (F : Nat) (w : Wd) (v : Int32) (k : Wd → Int32 → Option (Int32 × Wd)) : ∀ m j, j + m = 8 → ∀ n, m < n → ∀ x, L_X5_hearing_4 F 9 v k n w x (nI j) = k w (x ||| orR (fun i => if gI w 9 2 ≤ nI i then 0 else if rol w 9 10 i ≤ v then bit1 i else 0) j m) := by
  intro m
  induction m with
  | zero =>
    intro j hj n hn x
    obtain ⟨n, rfl⟩ : ∃ q, n = q + 1 := ⟨n - 1, by omega⟩
    rw [L_X5_hearing_4, if_pos (n8le (by omega) (lt31 (by omega)))]
    show k w x = k w (x ||| 0)
    rw [or0]
  | succ m ih =>
    intro j hj n hn x
    obtain ⟨n, rfl⟩ : ∃ q, n = q + 1 := ⟨n - 1, by omega⟩
    have go : ∀ y, K_X5_hearing_33 F 9 v k (L_X5_hearing_4 F 9 v k n) w y (nI j) = k w (y ||| orR (fun i => if gI w 9 2 ≤ nI i then 0 else if rol w 9 10 i ≤ v then bit1 i else 0) (j + 1) m) := by
      intro y
      show L_X5_hearing_4 F 9 v k n w y (nI j + 1) = _
      rw [nI_1, ih (j + 1) (by omega) n (by omega)]
    rw [L_X5_hearing_4, if_neg (n8gt (by omega)), bnd_r (v_X5_has F w 9 j (by omega))]
    show _ = k w (x ||| ((if gI w 9 2 ≤ nI j then 0 else if rol w 9 10 j ≤ v then bit1 j else 0) ||| _))
    by_cases h1 : gI w 9 2 ≤ nI j
    · rw [if_pos h1, if_pos rfl, if_pos h1, zor]; exact go x
    · rw [if_neg h1, if_neg (show ¬ (1 : Int32) = 0 by decide), bnd_r (v_X5_firstOf F w 9 j (by omega)), if_neg h1]
      by_cases h2 : rol w 9 10 j ≤ v
      · rw [if_neg (Int32.not_lt.mpr h2), if_pos h2, lt_v, ← orA]; exact go _
      · rw [if_pos (Int32.not_le.mp h2), if_neg h2, zor]; exact go x
theorem v_X5_hearing {F : Nat} (hF : 100 ≤ F) (w : Wd) (t : Nat) (v : Int32) : P_X5_hearing F w 9 v = some (hearT (tC w t) v, w) := by
  refine (l_X5_hearing F w v _ 8 0 rfl F (by omega) 0).trans ?_
  show some (0 ||| _, w) = _
  rw [zor]; rfl
theorem l_X5_moved (F : Nat) (w : Wd) (d : Int32) (k : Wd → Int32 → Option (Int32 × Wd)) : ∀ m j, j + m = 8 → ∀ n, m < n → ∀ x, L_X5_moved_4 F 9 d k n w x (nI j) = k w (x ||| orR (fun i => if rol w 9 11 i = 0 then 0 else if rol w 9 11 i ≤ bc (d &&& (bit1 i ^^^ (-1))) then bit1 i else 0) j m) := by
  intro m
  induction m with
  | zero =>
    intro j hj n hn x
    obtain ⟨n, rfl⟩ : ∃ q, n = q + 1 := ⟨n - 1, by omega⟩
    rw [L_X5_moved_4, if_pos (n8le (by omega) (lt31 (by omega)))]
    show k w x = k w (x ||| 0)
    rw [or0]
  | succ m ih =>
    intro j hj n hn x
    obtain ⟨n, rfl⟩ : ∃ q, n = q + 1 := ⟨n - 1, by omega⟩
    have go : ∀ y, K_X5_moved_43 F 9 d k (L_X5_moved_4 F 9 d k n) w y (nI j) = k w (y ||| orR (fun i => if rol w 9 11 i = 0 then 0 else if rol w 9 11 i ≤ bc (d &&& (bit1 i ^^^ (-1))) then bit1 i else 0) (j + 1) m) := by
      intro y
      show L_X5_moved_4 F 9 d k n w y (nI j + 1) = _
      rw [nI_1, ih (j + 1) (by omega) n (by omega)]
    rw [L_X5_moved_4, if_neg (n8gt (by omega)), bnd_r (v_X5_secondOf F w 9 j (by omega))]
    show _ = k w (x ||| ((if rol w 9 11 j = 0 then 0 else if rol w 9 11 j ≤ bc (d &&& (bit1 j ^^^ (-1))) then bit1 j else 0) ||| _))
    by_cases h1 : rol w 9 11 j = 0
    · rw [if_pos h1, if_pos h1, zor]; exact go x
    · rw [if_neg h1, bnd_r (v_bc F w _), if_neg h1]
      show (if bc (d &&& (bit1 j ^^^ (-1))) < rol w 9 11 j then _ else _) = _
      by_cases h2 : rol w 9 11 j ≤ bc (d &&& (bit1 j ^^^ (-1)))
      · rw [if_neg (Int32.not_lt.mpr h2), if_pos h2, lt_v, ← orA]; exact go _
      · rw [if_pos (Int32.not_le.mp h2), if_neg h2, zor]; exact go x
theorem v_X5_moved {F : Nat} (hF : 100 ≤ F) (w : Wd) (t : Nat) (d : Int32) : P_X5_moved F w 9 d = some (movT (tC w t) d, w) := by
  refine (l_X5_moved F w d _ 8 0 rfl F (by omega) 0).trans ?_
  show some (0 ||| _, w) = _
  rw [zor]; rfl
theorem Kp_ring {a : Nat} (ha : 23 ≤ a) : Kp (fun b => Scr b ∨ b = a ∨ b = a + 1) := fun b hb => by
  rcases hb with h | h | h
  · exact .inr (.inl h)
  · omega
  · omega
theorem v_X9_minute {F : Nat} (hF : 100 ≤ F) (w : Wd) (t a : Nat) (ok : okT w t) (ha : 23 ≤ a) : ∃ w2, P_X9_minute F w t a = some w2 ∧ Fr (fun b => Scr b ∨ b = a ∨ b = a + 1) w w2 ∧ bC w2 a = mi (tC w t) (bC w a) := by
  obtain ⟨w1, e1, e2, e3⟩ := v_X9_ring hF w t a ok ha
  have et := tC_fr (Kp_ring ha) e2 ok
  refine ⟨sI w1 a 8 (gI w1 a 8 ||| (hearT (tC w1 t) (gI w1 a 5) ||| movT (tC w1 t) (gI w1 a 8))), ?_, e2.tr Fr.ofI (fun _ h => h) (fun _ h => .inr (.inl h)), ?_⟩
  · unfold P_X9_minute
    rw [bnd_r e1, bnd_r (v_X5_hearing hF w1 t _), bnd_r (v_X5_moved hF w1 t _)]
    rfl
  · have q12 : gI w1 a 5 = mi0 (tC w t) (bC w a) 12 := by rw [← e3]; rfl
    have q15 : gI w1 a 8 = bC w a 15 := by
      have : bC w1 a 15 = mi0 (tC w t) (bC w a) 15 := by rw [e3]
      exact this
    rw [et, q12, q15]
    funext k
    show _ = (if k = 15 then bC w a 15 ||| _ else mi0 (tC w t) (bC w a) k)
    rw [← e3]
    unfold bC
    by_cases h8 : k < 8
    · rw [if_pos h8, if_neg (show ¬ k = 15 by omega), if_pos h8, gI_sI, if_neg (by omega)]
    · rw [if_neg h8]
      by_cases h16 : k < 16
      · rw [if_pos h16, gI_sI, if_pos rfl]
        by_cases h15 : k = 15
        · subst h15; rfl
        · rw [if_neg (show ¬ k - 7 = 8 by omega), if_neg h15, if_neg h8, if_pos h16]
      · rw [if_neg h16, if_neg (show ¬ k = 15 by omega), if_neg h8, if_neg h16]
theorem l_X1_copy (F a1 a2 : Nat) (h12 : ¬ a2 + 1 = a1 + 1) (kk : Wd → Option Wd) : ∀ m j, j + m = 8 → ∀ n, m < n → ∀ w, ∃ w2, L_X1_copy_2 F a1 a2 kk n w (nI j) = kk w2 ∧ Fr (fun b => b = a1 + 1) w w2 ∧ ∀ k, gI w2 (a1 + 1) k = if j ≤ k ∧ k < 8 then gI w (a2 + 1) k else gI w (a1 + 1) k := by
  intro m
  induction m with
  | zero =>
    intro j hj n hn w
    obtain ⟨n, rfl⟩ : ∃ q, n = q + 1 := ⟨n - 1, by omega⟩
    rw [L_X1_copy_2, if_pos (n8le (by omega) (lt31 (by omega)))]
    exact ⟨w, rfl, Fr.rfl', fun k => by rw [if_neg (by omega)]⟩
  | succ m ih =>
    intro j hj n hn w
    obtain ⟨n, rfl⟩ : ∃ q, n = q + 1 := ⟨n - 1, by omega⟩
    rw [L_X1_copy_2, if_neg (n8gt (by omega)), gd_t (inB_n (show j < 8 by omega) (lt31 (by omega))), gd_t (inB_n (show j < 8 by omega) (lt31 (by omega))), lt_v, lt_v, nI_1, nI_clamp (lt31 (by omega))]
    obtain ⟨w2, e1, e2, e3⟩ := ih (j + 1) (by omega) n (by omega) (sI w (a1 + 1) j (gI w (a2 + 1) j))
    refine ⟨w2, e1, Fr.ofI.tr e2 (fun _ h => h) (fun _ h => h), fun k => ?_⟩
    rw [e3 k, gI_sI, if_neg h12, gI_sI, if_pos rfl]
    by_cases hk : j + 1 ≤ k ∧ k < 8
    · rw [if_pos hk, if_pos (show j ≤ k ∧ k < 8 by omega)]
    · rw [if_neg hk]
      by_cases hkj : k = j
      · subst hkj; rw [if_pos rfl, if_pos (show k ≤ k ∧ k < 8 by omega)]
      · rw [if_neg hkj, if_neg (show ¬ (j ≤ k ∧ k < 8) by omega)]
theorem v_X1_copy {F : Nat} (hF : 100 ≤ F) (w : Wd) (a1 a2 : Nat) (h1 : a1 ≠ a2) (h2 : a1 + 1 ≠ a2) (h3 : a2 + 1 ≠ a1) : ∃ w2, P_X1_copy F w a1 a2 = some w2 ∧ Fr (fun b => b = a1 ∨ b = a1 + 1) w w2 ∧ bC w2 a1 = bC w a2 := by
  obtain ⟨w1, e1, e2, e3⟩ := l_X1_copy F a1 a2 (by omega) (fun w  => lt (sI w a1 1 (gI w a2 1)) (fun w9 => lt (sI w9 a1 2 (gI w9 a2 2)) (fun w10 => lt (sI w10 a1 3 (gI w10 a2 3)) (fun w11 => lt (sI w11 a1 4 (gI w11 a2 4)) (fun w12 => lt (sI w12 a1 5 (gI w12 a2 5)) (fun w13 => lt (sI w13 a1 6 (gI w13 a2 6)) (fun w14 => lt (sI w14 a1 7 (gI w14 a2 7)) (fun w15 => lt (sI w15 a1 8 (gI w15 a2 8)) (fun w16 => some w16))))))))) 8 0 rfl F (by omega) w
  have ea : ∀ k, gI w1 a2 k = gI w a2 k := (e2 a2 (by omega)).1
  refine ⟨_, e1, ?_, ?_⟩
  · have st : ∀ (u : Wd) (k : Nat) (v : Int32), Fr (fun b => b = a1 ∨ b = a1 + 1) w u → Fr (fun b => b = a1 ∨ b = a1 + 1) w (sI u a1 k v) := fun u k v h => h.tr Fr.ofI (fun _ h => h) (fun _ h => .inl h)
    exact st _ _ _ (st _ _ _ (st _ _ _ (st _ _ _ (st _ _ _ (st _ _ _ (st _ _ _ (st _ _ _ (e2.imp (fun _ h => .inr h)))))))))
  · refine bC_ext (fun k hk => ?_) (fun k hk1 hk2 => ?_)
    · simp only [gI_sI, if_neg (show ¬ a1 + 1 = a1 by omega)]
      rw [e3 k, if_pos (show 0 ≤ k ∧ k < 8 by omega)]
    · rcases (show k = 1 ∨ k = 2 ∨ k = 3 ∨ k = 4 ∨ k = 5 ∨ k = 6 ∨ k = 7 ∨ k = 8 by omega) with rfl | rfl | rfl | rfl | rfl | rfl | rfl | rfl <;> simp [gI_sI, if_neg (Ne.symm h1), ea]
-- ===== what is told =====
def Tl (w : Wd) (L : List Int64) : Prop := gI w 3 1 = nI L.length ∧ ∀ k, k < L.length → gJ w 4 k = L.getD k 0
theorem v_X7_clear (F : Nat) (w : Wd) : ∃ w2, P_X7_clear F w = some w2 ∧ Fr (fun b => b = 3 ∨ b = 4) w w2 ∧ Tl w2 [] := ⟨_, rfl, Fr.ofI.imp (fun _ h => .inl h), by rw [gI_sI, if_pos rfl, if_pos rfl]; rfl, fun k hk => absurd hk (Nat.not_lt_zero _)⟩
theorem v_X7_add (F : Nat) (w : Wd) (L : List Int64) (h : Tl w L) (hL : L.length < 6) (x : Int64) : ∃ w2, P_X7_add F w x = some w2 ∧ Fr (fun b => b = 3 ∨ b = 4) w w2 ∧ Tl w2 (L ++ [x]) := by
  obtain ⟨h1, h2⟩ := h
  unfold P_X7_add
  rw [h1, if_neg (nI_pos (lt31 (by omega))), if_neg (show ¬ (6 : Int32) ≤ nI L.length from nI_ge (a := L.length) (b := 6) hL (by decide)), gd_t (inB_n hL (lt31 (by omega))), lt_v, lt_v, nI_clamp (lt31 (by omega))]
  refine ⟨_, rfl, (Fr.ofJ.imp (fun _ h => Or.inr h)).tr (Fr.ofI.imp (fun _ h => Or.inl h)) (fun _ h => h) (fun _ h => h), ?_, fun k hk => ?_⟩
  · rw [gI_sI, if_pos rfl, if_pos rfl, gI_sJ, h1, nI_1, List.length_append]; rfl
  · rw [List.length_append] at hk
    have hk2 : k < L.length + 1 := hk
    rw [gJ_sI, gJ_sJ, if_pos rfl]
    by_cases hkL : k = L.length
    · rw [if_pos hkL, hkL]; simp
    · rw [if_neg hkL, h2 k (by omega)]
      rw [List.getD_eq_getElem?_getD, List.getD_eq_getElem?_getD, List.getElem?_append_left (by omega)]
theorem v_X10_tell (F : Nat) (w : Wd) (x : Int64) : ∃ w2, P_X10_tell F w x = some w2 ∧ Fr (fun b => b = 3 ∨ b = 4) w w2 ∧ Tl w2 [x] := by
  obtain ⟨w1, a1, a2, a3⟩ := v_X7_clear F w
  obtain ⟨w2, b1, b2, b3⟩ := v_X7_add F w1 [] a3 (by decide) x
  unfold P_X10_tell
  rw [bnv_r a1, bnv_r b1]
  exact ⟨w2, rfl, a2.tr b2 (fun _ h => h) (fun _ h => h), b3⟩
theorem v_X10_tell2 (F : Nat) (w : Wd) (x y : Int64) : ∃ w2, P_X10_tell_ F w x y = some w2 ∧ Fr (fun b => b = 3 ∨ b = 4) w w2 ∧ Tl w2 [x, y] := by
  obtain ⟨w1, a1, a2, a3⟩ := v_X7_clear F w
  obtain ⟨w2, b1, b2, b3⟩ := v_X7_add F w1 [] a3 (by decide) x
  obtain ⟨w3, c1, c2, c3⟩ := v_X7_add F w2 [x] b3 (show 1 < 6 by decide) y
  unfold P_X10_tell_
  rw [bnv_r a1, bnv_r b1, bnv_r c1]
  exact ⟨w3, rfl, (a2.tr b2 (fun _ h => h) (fun _ h => h)).tr c2 (fun _ h => h) (fun _ h => h), c3⟩
theorem v_X10_tell3 (F : Nat) (w : Wd) (x y z : Int64) : ∃ w2, P_X10_tell__ F w x y z = some w2 ∧ Fr (fun b => b = 3 ∨ b = 4) w w2 ∧ Tl w2 [x, y, z] := by
  obtain ⟨w1, a1, a2, a3⟩ := v_X7_clear F w
  obtain ⟨w2, b1, b2, b3⟩ := v_X7_add F w1 [] a3 (by decide) x
  obtain ⟨w3, c1, c2, c3⟩ := v_X7_add F w2 [x] b3 (show 1 < 6 by decide) y
  obtain ⟨w4, d1, d2, d3⟩ := v_X7_add F w3 [x, y] c3 (show 2 < 6 by decide) z
  unfold P_X10_tell__
  rw [bnv_r a1, bnv_r b1, bnv_r c1, bnv_r d1]
  exact ⟨w4, rfl, ((a2.tr b2 (fun _ h => h) (fun _ h => h)).tr c2 (fun _ h => h) (fun _ h => h)).tr d2 (fun _ h => h) (fun _ h => h), d3⟩
-- ===== minutes thought of =====
/-- so many minutes, and how many of them are rung ahead of the first that is not -/
def rgo (T : Tw) : Nat → Bl → Nat × Bl
  | 0, b => (0, b)
  | n + 1, b => if loudT T b (b 8) ≤ 0 then (0, mi0 T b) else ((rgo T n (mi0 T b)).1 + 1, (rgo T n (mi0 T b)).2)
/-- the first of so many minutes, counted from one on, behind which it has stopped more often than so -/
def fst0 (T : Tw) (s : Int32) : Nat → Nat → Bl → Nat × Bl
  | 0, j, b => (j, b)
  | m + 1, j, b => if s < mi0 T b 13 then (j, mi0 T b) else fst0 T s m (j + 1) (mi0 T b)
def setR (b : Bl) (s : Int32) : Bl := fun k => if k = 8 then s else b k
def SP (b : Nat) : Prop := Scr b ∨ (25 ≤ b ∧ b ≤ 28)
theorem Kp_SP : Kp SP := fun b hb => by
  rcases hb with h | h
  · exact .inr (.inl h)
  · omega
/-- out of w the bell 25 has come to b, nothing else of account has changed -/
def Sim (w w1 : Wd) (b : Bl) : Prop := Fr SP w w1 ∧ bC w1 25 = b
theorem sim_start {F : Nat} (hF : 100 ≤ F) {w w1 : Wd} (h : Fr SP w w1) : ∃ w2, P_X1_copy F w1 25 23 = some w2 ∧ Sim w w2 (bC w 23) ∧ (∀ k, gI w2 27 k = gI w1 27 k) ∧ (∀ k, gI w2 28 k = gI w1 28 k) := by
  obtain ⟨w2, e1, e2, e3⟩ := v_X1_copy hF w1 25 23 (by decide) (by decide) (by decide)
  refine ⟨w2, e1, ⟨h.tr e2 (fun _ h => h) (fun b h => ?_), ?_⟩, (e2 27 (by omega)).1, (e2 28 (by omega)).1⟩
  · exact .inr (by omega)
  · rw [e3]; exact bC_fr h (by unfold SP Scr; omega) (by unfold SP Scr; omega)
theorem bC_rope {w : Wd} {a : Nat} (s : Int32) : bC (sI w a 1 s) a = setR (bC w a) s := by
  funext k
  show bC (sI w a 1 s) a k = if k = 8 then s else bC w a k
  unfold bC
  by_cases h8 : k < 8
  · rw [if_pos h8, if_neg (show ¬ k = 8 by omega), if_pos h8, gI_sI, if_neg (by omega)]
  · rw [if_neg h8]
    by_cases h16 : k < 16
    · rw [if_pos h16, gI_sI, if_pos rfl]
      by_cases h : k = 8
      · subst h; rfl
      · rw [if_neg h, if_neg h8, if_pos h16, if_neg (show ¬ k - 7 = 1 by omega)]
    · rw [if_neg h16, if_neg (show ¬ k = 8 by omega), if_neg h8, if_neg h16]
theorem sim_rope {w w1 : Wd} {b : Bl} (h : Sim w w1 b) (s : Int32) : Sim w (sI w1 25 1 s) (setR b s) := ⟨h.1.tr Fr.ofI (fun _ h => h) (fun b h => .inr (by omega)), by rw [bC_rope, h.2]⟩
theorem sim_ring {F : Nat} (hF : 100 ≤ F) {w w1 : Wd} {b : Bl} (t : Nat) (ok : okT w t) (h : Sim w w1 b) : ∃ w2, P_X9_ring F w1 t 25 = some (if loudT (tC w t) b (b 8) ≤ 0 then 0 else 1, w2) ∧ Sim w w2 (mi0 (tC w t) b) ∧ (∀ k, gI w2 27 k = gI w1 27 k) ∧ (∀ k, gI w2 28 k = gI w1 28 k) := by
  obtain ⟨w2, e1, e2, e3⟩ := v_X9_ring hF w1 t 25 (okT_fr Kp_SP h.1 ok) (by decide)
  rw [tC_fr Kp_SP h.1 ok, h.2] at e1 e3
  exact ⟨w2, e1, ⟨h.1.tr e2 (fun _ h => h) (fun b h => by unfold SP; rcases h with h | h | h; exact .inl h; exact .inr (by omega); exact .inr (by omega)), e3⟩, (e2 27 (by unfold Scr; omega)).1, (e2 28 (by unfold Scr; omega)).1⟩
theorem sim_minute {F : Nat} (hF : 100 ≤ F) {w w1 : Wd} {b : Bl} (t : Nat) (ok : okT w t) (h : Sim w w1 b) : ∃ w2, P_X9_minute F w1 t 25 = some w2 ∧ Sim w w2 (mi (tC w t) b) := by
  obtain ⟨w2, e1, e2, e3⟩ := v_X9_minute hF w1 t 25 (okT_fr Kp_SP h.1 ok) (by decide)
  rw [tC_fr Kp_SP h.1 ok, h.2] at e3
  exact ⟨w2, e1, ⟨h.1.tr e2 (fun _ h => h) (fun b h => by unfold SP; rcases h with h | h | h; exact .inl h; exact .inr (by omega); exact .inr (by omega)), e3⟩⟩
theorem l_X9_rungOn {F : Nat} (hF : 100 ≤ F) (w : Wd) (t : Nat) (ok : okT w t) (N : Nat) (hN : N < 2 ^ 31) (kk : Wd → Option (Int32 × Wd)) : ∀ m j, j + m = N → ∀ n, m < n → ∀ w1 b, Sim w w1 b → ∃ w2, L_X9_rungOn_2 F t 25 (nI N) kk n w1 (nI j) = (if (rgo (tC w t) m b).1 = m then kk w2 else some (nI (j + (rgo (tC w t) m b).1), w2)) ∧ Sim w w2 (rgo (tC w t) m b).2 ∧ (∀ k, gI w2 27 k = gI w1 27 k) ∧ (∀ k, gI w2 28 k = gI w1 28 k) := by
  intro m
  induction m with
  | zero =>
    intro j hj n hn w1 b hs
    obtain ⟨n, rfl⟩ : ∃ q, n = q + 1 := ⟨n - 1, by omega⟩
    obtain rfl : j = N := by omega
    rw [L_X9_rungOn_2, if_pos (Int32.le_refl _)]
    exact ⟨w1, by rw [if_pos (show (rgo (tC w t) 0 b).1 = 0 from rfl)], hs, fun _ => rfl, fun _ => rfl⟩
  | succ m ih =>
    intro j hj n hn w1 b hs
    obtain ⟨n, rfl⟩ : ∃ q, n = q + 1 := ⟨n - 1, by omega⟩
    obtain ⟨w2, e1, e2, e3, e4⟩ := sim_ring hF t ok hs
    rw [L_X9_rungOn_2, if_neg (nI_ge (by omega) hN), bnd_r e1]
    show ∃ w2, _ = (if (if loudT (tC w t) b (b 8) ≤ 0 then (0, mi0 (tC w t) b) else _).1 = m + 1 then _ else some (nI (j + (if loudT (tC w t) b (b 8) ≤ 0 then (0, mi0 (tC w t) b) else _).1), w2)) ∧ Sim w w2 (if loudT (tC w t) b (b 8) ≤ 0 then (0, mi0 (tC w t) b) else _).2 ∧ _
    by_cases hl : loudT (tC w t) b (b 8) ≤ 0
    · simp only [if_pos hl, if_true]
      exact ⟨w2, by rw [if_neg (by omega)]; rfl, e2, e3, e4⟩
    · simp only [if_neg hl]
      rw [if_neg (show ¬ (1 : Int32) = 0 by decide), lt_v, nI_1]
      obtain ⟨w3, f1, f2, f3, f4⟩ := ih (j + 1) (by omega) n (by omega) w2 _ e2
      refine ⟨w3, ?_, f2, fun k => (f3 k).trans (e3 k), fun k => (f4 k).trans (e4 k)⟩
      rw [f1]
      by_cases hq : (rgo (tC w t) m (mi0 (tC w t) b)).1 = m
      · rw [if_pos hq, if_pos (by omega)]
      · rw [if_neg hq, if_neg (by omega), show j + 1 + (rgo (tC w t) m (mi0 (tC w t) b)).1 = j + ((rgo (tC w t) m (mi0 (tC w t) b)).1 + 1) from by omega]
theorem rgo_le (T : Tw) : ∀ n b, (rgo T n b).1 ≤ n := by
  intro n
  induction n with
  | zero => intro b; exact Nat.le_refl _
  | succ n ih =>
    intro b
    show (if loudT T b (b 8) ≤ 0 then (0, mi0 T b) else _).1 ≤ _
    split
    · exact Nat.zero_le _
    · exact Nat.succ_le_succ (ih _)
theorem sim_rungOn {F : Nat} (hF : 2000 ≤ F) {w w1 : Wd} {b : Bl} (t : Nat) (ok : okT w t) (h : Sim w w1 b) (N : Nat) (hN : N ≤ 999) : ∃ w2, P_X9_rungOn F w1 t 25 (nI N) = some (nI (rgo (tC w t) N b).1, w2) ∧ Sim w w2 (rgo (tC w t) N b).2 ∧ (∀ k, gI w2 27 k = gI w1 27 k) ∧ (∀ k, gI w2 28 k = gI w1 28 k) := by
  obtain ⟨w2, e1, e2, e3, e4⟩ := l_X9_rungOn (F := F) (by omega) w t ok N (by omega) (fun w => some (nI N, w)) N 0 (by omega) F (by omega) w1 b h
  refine ⟨w2, e1.trans ?_, e2, e3, e4⟩
  by_cases hq : (rgo (tC w t) N b).1 = N
  · rw [if_pos hq, hq]
  · rw [if_neg hq, Nat.zero_add]
theorem l_X10_firstStop {F : Nat} (hF : 100 ≤ F) (w : Wd) (t : Nat) (ok : okT w t) (kk : Wd → Option (Int32 × Wd)) : ∀ m j, j + m = 1000 → ∀ n, m < n → ∀ w1 b, Sim w w1 b → ∃ w2, L_X10_firstStop_13 F t kk n w1 (nI j) = (if (fst0 (tC w t) (gI w 23 6) m j b).1 = 1000 then kk w2 else some (nI (fst0 (tC w t) (gI w 23 6) m j b).1, w2)) ∧ Sim w w2 (fst0 (tC w t) (gI w 23 6) m j b).2 := by
  intro m
  induction m with
  | zero =>
    intro j hj n hn w1 b hs
    obtain ⟨n, rfl⟩ : ∃ q, n = q + 1 := ⟨n - 1, by omega⟩
    rw [L_X10_firstStop_13, if_pos (show (999 : Int32) < nI j from nI_lt (a := 999) (b := j) (by omega) (by omega))]
    exact ⟨w1, by rw [if_pos (show (fst0 (tC w t) (gI w 23 6) 0 j b).1 = 1000 from by show j = 1000; omega)], hs⟩
  | succ m ih =>
    intro j hj n hn w1 b hs
    obtain ⟨n, rfl⟩ : ∃ q, n = q + 1 := ⟨n - 1, by omega⟩
    obtain ⟨w2, e1, e2, -⟩ := sim_ring hF t ok hs
    have h13 : gI w2 25 6 = mi0 (tC w t) b 13 := by rw [← e2.2]; rfl
    have h23 : gI w2 23 6 = gI w 23 6 := (e2.1 23 (by unfold SP Scr; omega)).1 6
    rw [L_X10_firstStop_13, if_neg (show ¬ (999 : Int32) < nI j from nI_nlt (a := 999) (b := j) (by omega) (by decide)), bnd_r e1, h13, h23]
    show ∃ w2, _ = (if (if gI w 23 6 < mi0 (tC w t) b 13 then (j, mi0 (tC w t) b) else fst0 (tC w t) (gI w 23 6) m (j + 1) (mi0 (tC w t) b)).1 = 1000 then _ else some (nI (if gI w 23 6 < mi0 (tC w t) b 13 then (j, mi0 (tC w t) b) else fst0 (tC w t) (gI w 23 6) m (j + 1) (mi0 (tC w t) b)).1, w2)) ∧ Sim w w2 (if gI w 23 6 < mi0 (tC w t) b 13 then (j, mi0 (tC w t) b) else fst0 (tC w t) (gI w 23 6) m (j + 1) (mi0 (tC w t) b)).2
    by_cases hl : gI w 23 6 < mi0 (tC w t) b 13
    · simp only [if_pos hl]
      rw [if_neg (Int32.not_le.mpr hl)]
      exact ⟨w2, by rw [if_neg (show ¬ j = 1000 by omega)], e2⟩
    · simp only [if_neg hl]
      rw [if_pos (Int32.not_lt.mp hl), lt_v, nI_1]
      exact ih (j + 1) (by omega) n (by omega) w2 _ e2
theorem fst0_le (T : Tw) (s : Int32) : ∀ m j b, (fst0 T s m j b).1 ≤ j + m := by
  intro m
  induction m with
  | zero => intro j b; exact Nat.le_refl _
  | succ m ih =>
    intro j b
    show (if s < mi0 T b 13 then (j, mi0 T b) else fst0 T s m (j + 1) (mi0 T b)).1 ≤ _
    split
    · exact Nat.le_add_right _ _
    · exact Nat.le_trans (ih _ _) (by omega)
theorem v_X10_firstStop {F : Nat} (hF : 2000 ≤ F) (w w0 : Wd) (h0 : Fr SP w w0) (t : Nat) (ok : okT w t) : ∃ w2, P_X10_firstStop F w0 t = some (nI (fst0 (tC w t) (bC w 23 13) 999 1 (bC w 23)).1, w2) ∧ Sim w w2 (fst0 (tC w t) (bC w 23 13) 999 1 (bC w 23)).2 := by
  obtain ⟨w1, e1, e2, -⟩ := sim_start (F := F) (by omega) h0
  obtain ⟨w2, f1, f2⟩ := l_X10_firstStop (F := F) (by omega) w t ok (fun w => some (1000, w)) 999 1 (by omega) F (by omega) w1 _ e2
  refine ⟨w2, ?_, f2⟩
  unfold P_X10_firstStop
  rw [bnv_r e1]
  refine f1.trans ?_
  show (if (fst0 (tC w t) (bC w 23 13) 999 1 (bC w 23)).1 = 1000 then some (1000, w2) else _) = _
  by_cases hq : (fst0 (tC w t) (bC w 23 13) 999 1 (bC w 23)).1 = 1000
  · rw [if_pos hq, hq]; rfl
  · rw [if_neg hq]; rfl
