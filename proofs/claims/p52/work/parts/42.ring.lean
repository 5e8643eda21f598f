-- ===== the class: a rule's value, how loud, a minute =====
/-- the words of the rule that lies at a place -/
def cde (w : Wd) (a : Nat) : Nat → Int32 := fun k => if nI k < gI w a 1 then trc (gI w (a + 1) k) else 0
def okL (w : Wd) (a : Nat) : Prop := ∃ N, gI w a 1 = nI N ∧ okR (cde w a) N ∧ ∀ k, k < N → okc (gI w (a + 1) k)
theorem v_X2_value {F : Nat} (hF : 100 ≤ F) (w : Wd) (a : Nat) (h : okL w a) (s t n x f r m : Int32) : ∃ w2, P_X2_value F w a s t n x f r m = some (if gI w a 1 = 0 then s * 10 - t - x * 3 - f else (runv (vals s t n x f r m) (cde w a) (gI w a 1).toNatClampNeg).1 0, w2) ∧ Fr (fun b => b = a + 2 ∨ b = a + 3) w w2 := by
  obtain ⟨N, hN, hR, hc⟩ := h
  have hN40 : N ≤ 40 := hR.1
  unfold P_X2_value
  by_cases h0 : gI w a 1 = 0
  · rw [if_pos h0, if_pos h0]
    exact ⟨w, rfl, Fr.rfl'⟩
  · rw [if_neg h0, if_neg h0]
    have hNp : 0 < N := by
      rcases Nat.eq_zero_or_pos N with rfl | h
      · exact absurd (by rw [hN]; rfl) h0
      · exact h
    simp only [lt_v, gd_t (show inB 0 7 = true from rfl), gd_t (show inB 1 7 = true from rfl), gd_t (show inB 2 7 = true from rfl), gd_t (show inB 3 7 = true from rfl), gd_t (show inB 4 7 = true from rfl), gd_t (show inB 5 7 = true from rfl), gd_t (show inB 6 7 = true from rfl)]
    generalize hw : sI (sI (sI (sI (sI (sI (sI w (a + 2) 0 s) (a + 2) 1 t) (a + 2) 2 n) (a + 2) 3 x) (a + 2) 4 f) (a + 2) 5 r) (a + 2) 6 m = w1
    have hf : Fr (fun b => b = a + 2) w w1 := by
      rw [← hw]
      have st : ∀ (u : Wd) (k : Nat) (v : Int32), Fr (fun b => b = a + 2) w u → Fr (fun b => b = a + 2) w (sI u (a + 2) k v) := fun u k v h => h.tr Fr.ofI (fun _ h => h) (fun _ h => h)
      exact st _ _ _ (st _ _ _ (st _ _ _ (st _ _ _ (st _ _ _ (st _ _ _ (st _ _ _ Fr.rfl'))))))
    have g1 : ∀ k, gI w1 a k = gI w a k := (hf a (by omega)).1
    have g2 : ∀ k, gI w1 (a + 1) k = gI w (a + 1) k := (hf (a + 1) (by omega)).1
    have hv : ∀ k, k < 7 → gI w1 (a + 2) k = vals s t n x f r m k := by
      intro k hk
      rw [← hw]
      simp only [gI_sI, if_true]
      unfold vals
      rcases (show k = 0 ∨ k = 1 ∨ k = 2 ∨ k = 3 ∨ k = 4 ∨ k = 5 ∨ k = 6 by omega) with rfl | rfl | rfl | rfl | rfl | rfl | rfl <;> rfl
    obtain ⟨w2, e1, e2, e3⟩ := l_X2_value F a s t n x f r m (fun w => gd (inB 0 41) (some (gI w (a + 3) 0, w))) (vals s t n x f r m) N (cde w a) hR N 0 (by omega) F (by omega) w1 (by rw [g1]; exact hN) (fun k hk => by rw [g2]; exact ⟨hc k hk, by unfold cde; rw [hN, if_pos (nI_lt hk (by omega))]⟩) ⟨hv, fun p hp => absurd hp (Nat.not_lt_zero _)⟩
    refine ⟨w2, e1.trans ?_, hf.tr e2 (fun _ h => .inl h) (fun _ h => .inr h)⟩
    have h1 : 1 ≤ hgt (cde w a) N := by
      have := hR.2.2.1 (N - 1) (by omega)
      rwa [show N - 1 + 1 = N from by omega] at this
    show some (gI w2 (a + 3) 0, w2) = _
    rw [e3.2 0 (by omega), hN, nI_clamp (by omega)]
/-- the places that are reckoned on, and those of nobody's state -/
def Scr (b : Nat) : Prop := b = 14 ∨ b = 15 ∨ b = 16 ∨ b = 20 ∨ b = 21 ∨ b = 22
def Kp (p : Nat → Prop) : Prop := ∀ b, p b → b < 5 ∨ Scr b ∨ 23 ≤ b
theorem isX2_or {a : Nat} (h : isX2 a = true) : a = 12 ∨ a = 18 := by
  unfold isX2 at h
  rw [List.contains_iff_mem] at h
  simpa [lawL] using h
/-- a tower that can be asked -/
def okT (w : Wd) (t : Nat) : Prop := (t = 5 ∨ t = 17) ∧ isX2 (gR w t 2) = true ∧ okL w (gR w t 2)
theorem Kp.not {p : Nat → Prop} (h : Kp p) {b : Nat} (h1 : ¬ Scr b) (h2 : 5 ≤ b ∧ b < 23) : ¬ p b := fun hb => by
  rcases h b hb with h | h | h
  · omega
  · exact h1 h
  · omega
theorem Kp.I {p : Nat → Prop} (h : Kp p) {w w2 : Wd} (f : Fr p w w2) {b : Nat} (h1 : ¬ Scr b) (h2 : 5 ≤ b ∧ b < 23) (k : Nat) : gI w2 b k = gI w b k := (f b (h.not h1 h2)).1 k
theorem Kp.R {p : Nat → Prop} (h : Kp p) {w w2 : Wd} (f : Fr p w w2) {b : Nat} (h1 : ¬ Scr b) (h2 : 5 ≤ b ∧ b < 23) (k : Nat) : gR w2 b k = gR w b k := (f b (h.not h1 h2)).2.2 k
theorem cde_fr {p : Nat → Prop} (h : Kp p) {w w2 : Wd} (f : Fr p w w2) {a : Nat} (ha : a = 12 ∨ a = 18) : cde w2 a = cde w a := by
  funext k
  unfold cde
  rcases ha with rfl | rfl
  · rw [h.I f (by unfold Scr; omega) (by omega), h.I f (by unfold Scr; omega) (by omega)]
  · rw [h.I f (by unfold Scr; omega) (by omega), h.I f (by unfold Scr; omega) (by omega)]
theorem okL_fr {p : Nat → Prop} (h : Kp p) {w w2 : Wd} (f : Fr p w w2) {a : Nat} (ha : a = 12 ∨ a = 18) (ok : okL w a) : okL w2 a := by
  obtain ⟨N, h1, h2, h3⟩ := ok
  refine ⟨N, ?_, by rw [cde_fr h f ha]; exact h2, fun k hk => ?_⟩
  · rcases ha with rfl | rfl
    · rw [h.I f (by unfold Scr; omega) (by omega)]; exact h1
    · rw [h.I f (by unfold Scr; omega) (by omega)]; exact h1
  · rcases ha with rfl | rfl
    · rw [h.I f (by unfold Scr; omega) (by omega)]; exact h3 k hk
    · rw [h.I f (by unfold Scr; omega) (by omega)]; exact h3 k hk
theorem okT_fr {p : Nat → Prop} (h : Kp p) {w w2 : Wd} (f : Fr p w w2) {t : Nat} (ok : okT w t) : okT w2 t := by
  obtain ⟨h1, h2, h3⟩ := ok
  have e : gR w2 t 2 = gR w t 2 := by
    rcases h1 with rfl | rfl
    · exact h.R f (by unfold Scr; omega) (by omega) _
    · exact h.R f (by unfold Scr; omega) (by omega) _
  refine ⟨h1, by rw [e]; exact h2, ?_⟩
  rw [e]
  exact okL_fr h f (isX2_or h2) h3
theorem rol_fr {p : Nat → Prop} (h : Kp p) {w w2 : Wd} (f : Fr p w w2) {a q : Nat} (ha : ¬ Scr a) (ha2 : 5 ≤ a ∧ a < 23) (hq : ¬ Scr q) (hq2 : 5 ≤ q ∧ q < 23) (k : Nat) : rol w2 a q k = rol w a q k := by
  unfold rol
  rw [h.I f ha ha2, h.I f hq hq2]
theorem tC_fr {p : Nat → Prop} (h : Kp p) {w w2 : Wd} (f : Fr p w w2) {t : Nat} (ok : okT w t) : tC w2 t = tC w t := by
  obtain ⟨h1, h2, h3⟩ := ok
  have e : gR w2 t 2 = gR w t 2 := by
    rcases h1 with rfl | rfl
    · exact h.R f (by unfold Scr; omega) (by omega) _
    · exact h.R f (by unfold Scr; omega) (by omega) _
  have et : ∀ k, gI w2 t k = gI w t k := by
    intro k
    rcases h1 with rfl | rfl
    · exact h.I f (by unfold Scr; omega) (by omega) _
    · exact h.I f (by unfold Scr; omega) (by omega) _
  have e6 : ∀ k, gI w2 6 k = gI w 6 k := fun k => h.I f (by unfold Scr; omega) (by omega) k
  have e9 : ∀ k, gI w2 9 k = gI w 9 k := fun k => h.I f (by unfold Scr; omega) (by omega) k
  have el : ∀ k, gI w2 (gR w t 2) k = gI w (gR w t 2) k := by
    intro k
    rcases isX2_or h2 with e | e
    · rw [e]; exact h.I f (by unfold Scr; omega) (by omega) _
    · rw [e]; exact h.I f (by unfold Scr; omega) (by omega) _
  have hc := cde_fr h f (isX2_or h2)
  funext c k
  unfold tC
  split
  · exact rol_fr h f (by unfold Scr; omega) (by omega) (by unfold Scr; omega) (by omega) _
  · exact rol_fr h f (by unfold Scr; omega) (by omega) (by unfold Scr; omega) (by omega) _
  · exact rol_fr h f (by unfold Scr; omega) (by omega) (by unfold Scr; omega) (by omega) _
  · exact rol_fr h f (by unfold Scr; omega) (by omega) (by unfold Scr; omega) (by omega) _
  · split
    · exact e6 _
    · exact e9 _
    · exact et _
    · exact et _
    · exact et _
    · rfl
  · rw [e]; exact congrFun hc k
  · rw [e, el]
  · rfl
theorem l_X9_volume (F : Nat) (w : Wd) (t a : Nat) (s : Int32) (k : Wd → Int32 → Int32 → Option (Int32 × Wd)) : ∀ m j, j + m = 8 → ∀ n, m < n → ∀ x y, L_X9_volume_21 F t a s k n w x y (nI j) = k w (x + sumR (fun i => if bt s i = 0 then 0 else rol w 6 7 i) j m) (y + sumR (fun i => if bt s i = 0 then 0 else gI w (a + 1) i) j m) := by
  intro m
  induction m with
  | zero =>
    intro j hj n hn x y
    obtain ⟨n, rfl⟩ : ∃ q, n = q + 1 := ⟨n - 1, by omega⟩
    rw [L_X9_volume_21, if_pos (n8le (by omega) (lt31 (by omega)))]
    show k w x y = k w (x + 0) (y + 0)
    rw [add0, add0]
  | succ m ih =>
    intro j hj n hn x y
    obtain ⟨n, rfl⟩ : ∃ q, n = q + 1 := ⟨n - 1, by omega⟩
    rw [L_X9_volume_21, if_neg (n8gt (by omega))]
    show (if bt s j = 0 then _ else _) = k w (x + ((if bt s j = 0 then 0 else rol w 6 7 j) + _)) (y + ((if bt s j = 0 then 0 else gI w (a + 1) j) + _))
    by_cases hb : bt s j = 0
    · rw [if_pos hb, if_pos hb, if_pos hb, zadd, zadd]
      show L_X9_volume_21 F t a s k n w x y (nI j + 1) = _
      rw [nI_1, ih (j + 1) (by omega) n (by omega)]
    · rw [if_neg hb, if_neg hb, if_neg hb, bnd_r (v_X5_firstOf F w 6 j (by omega)), lt_v, bnd_r (v_X1_tiredOf F w a j (by omega)), lt_v]
      show L_X9_volume_21 F t a s k n w _ _ (nI j + 1) = _
      rw [nI_1, ih (j + 1) (by omega) n (by omega), addA, addA]
theorem v_X9_volume {F : Nat} (hF : 100 ≤ F) (w : Wd) (t a : Nat) (ok : okT w t) (s : Int32) : ∃ w2, P_X9_volume F w t a s = some (loudT (tC w t) (bC w a) s, w2) ∧ Fr Scr w w2 := by
  unfold P_X9_volume loudT
  by_cases h0 : s = 0
  · rw [if_pos h0, if_pos h0]; exact ⟨w, rfl, Fr.rfl'⟩
  rw [if_neg h0, if_neg h0]
  show ∃ w2, (if gI w a 2 = 0 then _ else _) = some (if gI w a 2 = 0 then 0 else _, w2) ∧ _
  by_cases h1 : gI w a 2 = 0
  · rw [if_pos h1, if_pos h1]; exact ⟨w, rfl, Fr.rfl'⟩
  rw [if_neg h1, if_neg h1]
  obtain ⟨w2, e1, e2⟩ := v_X2_value hF w (gR w t 2) ok.2.2 (0 + sumR (fun i => if bt s i = 0 then 0 else rol w 6 7 i) 0 8) (0 + sumR (fun i => if bt s i = 0 then 0 else gI w (a + 1) i) 0 8) (bc s) (gI w t 3) (gI w t 4) (gI w a 2) (iremI (gI w a 3) 60)
  refine ⟨w2, (l_X9_volume F w t a s _ 8 0 rfl F (by omega) 0 0).trans ?_, e2.imp ?_⟩
  · show bnd (P_J6_bitCount_0f7a4 F w s) _ = _
    rw [bnd_r (v_bc F w s), lt_v, gd_t ok.2.1, bnd_r e1, zadd, zadd]
    have e : sumR (fun i => if bt s i = 0 then 0 else bC w a i) 0 8 = sumR (fun i => if bt s i = 0 then 0 else gI w (a + 1) i) 0 8 := sumR_congr 8 0 (fun i _ h2 => by
      show (if bt s i = 0 then 0 else if i < 8 then gI w (a + 1) i else _) = _
      rw [if_pos (show i < 8 by omega)])
    rw [e]
    rfl
  · intro b hb
    unfold Scr
    rcases isX2_or ok.2.1 with e | e <;> rw [e] at hb <;> omega
theorem l_X1_workAndRest (F a : Nat) (kk : Wd → Option Wd) : ∀ m j, j + m = 8 → ∀ n, m < n → ∀ w, ∃ w2, L_X1_workAndRest_2 F a kk n w (nI j) = kk w2 ∧ Fr (fun b => b = a + 1) w w2 ∧
    ∀ k, gI w2 (a + 1) k = if j ≤ k ∧ k < 8 then (if bt (gI w a 1) k = 0 then maxI 0 (gI w (a + 1) k - 1) else minI 99 (gI w (a + 1) k + 2)) else gI w (a + 1) k := by
  intro m
  induction m with
  | zero =>
    intro j hj n hn w
    obtain ⟨n, rfl⟩ : ∃ q, n = q + 1 := ⟨n - 1, by omega⟩
    rw [L_X1_workAndRest_2, if_pos (n8le (by omega) (lt31 (by omega)))]
    exact ⟨w, rfl, Fr.rfl', fun k => by rw [if_neg (by omega)]⟩
  | succ m ih =>
    intro j hj n hn w
    obtain ⟨n, rfl⟩ : ∃ q, n = q + 1 := ⟨n - 1, by omega⟩
    rw [L_X1_workAndRest_2, if_neg (n8gt (by omega)), lt_v]
    have hx : ∀ v : Int32, ∃ w2, K_X1_workAndRest_62 F a kk (L_X1_workAndRest_2 F a kk n) w (nI j) v (nI j) = kk w2 ∧ Fr (fun b => b = a + 1) w w2 ∧
        ∀ k, gI w2 (a + 1) k = if j + 1 ≤ k ∧ k < 8 then (if bt (gI w a 1) k = 0 then maxI 0 (gI w (a + 1) k - 1) else minI 99 (gI w (a + 1) k + 2)) else if k = j then v else gI w (a + 1) k := by
      intro v
      obtain ⟨w2, e1, e2, e3⟩ := ih (j + 1) (by omega) n (by omega) (sI w (a + 1) j v)
      refine ⟨w2, ?_, Fr.ofI.tr e2 (fun _ h => h) (fun _ h => h), fun k => ?_⟩
      · unfold K_X1_workAndRest_62
        rw [gd_t (inB_n (by omega) (lt31 (by omega))), lt_v, lt_v, nI_1, nI_clamp (lt31 (by omega))]
        exact e1
      · rw [e3 k]
        have ea : gI (sI w (a + 1) j v) a 1 = gI w a 1 := by rw [gI_sI, if_neg (by omega)]
        rw [ea, gI_sI, if_pos rfl]
        by_cases hk : j + 1 ≤ k ∧ k < 8
        · rw [if_pos hk, if_pos hk, if_neg (show ¬ k = j by omega)]
        · rw [if_neg hk, if_neg hk]
    have hfin : ∀ v : Int32, v = (if bt (gI w a 1) j = 0 then maxI 0 (gI w (a + 1) j - 1) else minI 99 (gI w (a + 1) j + 2)) → ∃ w2, K_X1_workAndRest_62 F a kk (L_X1_workAndRest_2 F a kk n) w (nI j) v (nI j) = kk w2 ∧ Fr (fun b => b = a + 1) w w2 ∧
        ∀ k, gI w2 (a + 1) k = if j ≤ k ∧ k < 8 then (if bt (gI w a 1) k = 0 then maxI 0 (gI w (a + 1) k - 1) else minI 99 (gI w (a + 1) k + 2)) else gI w (a + 1) k := by
      intro v hv
      obtain ⟨w2, e1, e2, e3⟩ := hx v
      refine ⟨w2, e1, e2, fun k => ?_⟩
      rw [e3 k]
      by_cases hk : j + 1 ≤ k ∧ k < 8
      · rw [if_pos hk, if_pos (show j ≤ k ∧ k < 8 by omega)]
      · rw [if_neg hk]
        by_cases hkj : k = j
        · subst hkj; rw [if_pos rfl, if_pos (show k ≤ k ∧ k < 8 by omega)]; exact hv
        · rw [if_neg hkj, if_neg (show ¬ (j ≤ k ∧ k < 8) by omega)]
    show ∃ w2, (if (if bt (gI w a 1) j = 0 then (0 : Int32) else 1) = 0 then _ else _) = kk w2 ∧ _
    rw [nI_clamp (lt31 (show j < 1000 by omega)), gd_t (inB_n (show j < 8 by omega) (lt31 (by omega))), gd_t (inB_n (show j < 8 by omega) (lt31 (by omega)))]
    by_cases hb : bt (gI w a 1) j = 0
    · rw [if_pos hb, if_pos rfl]
      exact hfin _ (by rw [if_pos hb])
    · rw [if_neg hb, if_neg (by decide)]
      exact hfin _ (by rw [if_neg hb])
theorem v_X1_workAndRest {F : Nat} (hF : 100 ≤ F) (w : Wd) (a : Nat) : ∃ w2, P_X1_workAndRest F w a = some w2 ∧ Fr (fun b => b = a + 1) w w2 ∧
    ∀ k, k < 8 → gI w2 (a + 1) k = (if bt (gI w a 1) k = 0 then maxI 0 (gI w (a + 1) k - 1) else minI 99 (gI w (a + 1) k + 2)) := by
  obtain ⟨w2, e1, e2, e3⟩ := l_X1_workAndRest F a (fun w => some w) 8 0 rfl F (by omega) w
  exact ⟨w2, e1, e2, fun k hk => by rw [e3 k, if_pos (by omega)]⟩
/-- the rest of a minute, once it is known whether it is rung -/
theorem v_X9_ringK {F : Nat} (hF : 100 ≤ F) (w : Wd) (t a : Nat) (ha : 23 ≤ a) (x : Int32) (hx : isZO x = true) : ∃ w2, K_X9_ring_97 F t a w x = some (x, w2) ∧ Fr (fun b => b = a ∨ b = a + 1) w w2 ∧
    (∀ k, gI w2 a k = if k = 7 then gI w a 7 + sumR (fun i => bt (gI w a 1) i * rol w 6 8 i) 0 8 else if k = 3 then gI w a 3 + 1 else gI w a k) ∧
    (∀ k, k < 8 → gI w2 (a + 1) k = (if bt (gI w a 1) k = 0 then maxI 0 (gI w (a + 1) k - 1) else minI 99 (gI w (a + 1) k + 2))) := by
  obtain ⟨w1, e1, e2, e3⟩ := v_X1_workAndRest hF w a
  have ea : ∀ k, gI w1 a k = gI w a k := (e2 a (by omega)).1
  have er : ∀ k, rol w1 6 8 k = rol w 6 8 k := fun k => by unfold rol; rw [(e2 6 (by omega)).1, (e2 8 (by omega)).1]
  unfold K_X9_ring_97
  rw [bnv_r e1, bnd_r (v_X5_secondsOf hF w1 6 _), lt_v, lt_v, gd_t hx]
  refine ⟨_, rfl, ?_, fun k => ?_, fun k hk => ?_⟩
  · exact ((e2.imp (fun b h => Or.inr h)).tr (Fr.ofI.imp (fun b h => Or.inl h)) (fun _ h => h) (fun _ h => h)).tr (Fr.ofI.imp (fun b h => Or.inl h)) (fun _ h => h) (fun _ h => h)
  · rw [gI_sI, if_pos rfl, gI_sI, if_pos rfl, gI_sI, if_pos rfl, ea, ea, ea, ea]
    by_cases h3 : k = 3
    · subst h3; rfl
    · rw [if_neg h3]
      by_cases h7 : k = 7
      · rw [if_pos h7, if_pos h7]
        congr 1
        exact sumR_congr 8 0 (fun i _ _ => by rw [er])
      · rw [if_neg h7, if_neg h7, if_neg h3]
  · rw [gI_sI, if_neg (by omega), gI_sI, if_neg (by omega)]
    exact e3 k hk
theorem mi0_9 (T : Tw) (b : Bl) : mi0 T b 9 = (if loudT T b (b 8) ≤ 0 then b 9 else if iremI (b 11 + 1) 10 = 0 then maxI 0 (b 9 - 1) else b 9) := rfl
theorem mi0_11 (T : Tw) (b : Bl) : mi0 T b 11 = (if loudT T b (b 8) ≤ 0 then b 11 else b 11 + 1) := rfl
theorem mi0_12 (T : Tw) (b : Bl) : mi0 T b 12 = (if loudT T b (b 8) ≤ 0 then b 12 + 1 else 0) := rfl
theorem mi0_13 (T : Tw) (b : Bl) : mi0 T b 13 = (if loudT T b (b 8) ≤ 0 then (if b 12 + 1 = T 4 4 + 1 then b 13 + 1 else b 13) else b 13) := rfl
theorem bC_ext {w w2 : Wd} {a a2 : Nat} (h1 : ∀ k, k < 8 → gI w2 (a2 + 1) k = gI w (a + 1) k) (h2 : ∀ k, 1 ≤ k → k < 9 → gI w2 a2 k = gI w a k) : bC w2 a2 = bC w a := by
  funext k
  unfold bC
  by_cases h8 : k < 8
  · rw [if_pos h8, if_pos h8, h1 k h8]
  · rw [if_neg h8, if_neg h8]
    by_cases h16 : k < 16
    · rw [if_pos h16, if_pos h16, h2 _ (by omega) (by omega)]
    · rw [if_neg h16, if_neg h16]
theorem bC_fr {p : Nat → Prop} {w w2 : Wd} (f : Fr p w w2) {a : Nat} (h1 : ¬ p a) (h2 : ¬ p (a + 1)) : bC w2 a = bC w a := bC_ext (fun k _ => (f _ h2).1 k) (fun k _ _ => (f _ h1).1 k)
theorem v_X9_ring {F : Nat} (hF : 100 ≤ F) (w : Wd) (t a : Nat) (ok : okT w t) (ha : 23 ≤ a) : ∃ w2, P_X9_ring F w t a = some (if loudT (tC w t) (bC w a) (bC w a 8) ≤ 0 then 0 else 1, w2) ∧ Fr (fun b => Scr b ∨ b = a ∨ b = a + 1) w w2 ∧ bC w2 a = mi0 (tC w t) (bC w a) := by
  obtain ⟨w1, e1, e2⟩ := v_X9_volume hF w t a ok (gI w a 1)
  have hS : ∀ b, 23 ≤ b → ¬ Scr b := fun b hb => by unfold Scr; omega
  have ea : ∀ k, gI w1 a k = gI w a k := (e2 a (hS a ha)).1
  have ea1 : ∀ k, gI w1 (a + 1) k = gI w (a + 1) k := (e2 (a + 1) (hS (a + 1) (by omega))).1
  have et : ∀ k, gI w1 t k = gI w t k := by
    intro k
    rcases ok.1 with rfl | rfl
    · exact (e2 5 (by unfold Scr; omega)).1 k
    · exact (e2 17 (by unfold Scr; omega)).1 k
  have er : ∀ k, rol w1 6 8 k = rol w 6 8 k := fun k => by unfold rol; rw [(e2 6 (by unfold Scr; omega)).1, (e2 8 (by unfold Scr; omega)).1]
  -- behind the first half: a world u that differs at the bell alone
  have fin : ∀ (u : Wd) (x : Int32), isZO x = true → Fr (fun b => b = a) w1 u → gI u a 1 = gI w a 1 → gI u a 3 = gI w a 3 → gI u a 7 = gI w a 7 →
      (∀ k, k = 2 ∨ k = 4 ∨ k = 5 ∨ k = 6 ∨ k = 8 → gI u a k = mi0 (tC w t) (bC w a) (k + 7)) →
      ∃ w2, K_X9_ring_97 F t a u x = some (x, w2) ∧ Fr (fun b => Scr b ∨ b = a ∨ b = a + 1) w w2 ∧ bC w2 a = mi0 (tC w t) (bC w a) := by
    intro u x hx hu h1 h3 h7 hk
    obtain ⟨w2, q1, q2, q3, q4⟩ := v_X9_ringK hF u t a ha x hx
    refine ⟨w2, q1, (e2.tr (hu.tr q2 (r := fun b => b = a ∨ b = a + 1) (fun _ h => Or.inl h) (fun _ h => h)) (fun _ h => Or.inl h) (fun _ h => Or.inr h)), ?_⟩
    have eu1 : ∀ k, gI u (a + 1) k = gI w (a + 1) k := fun k => ((hu (a + 1) (by omega)).1 k).trans (ea1 k)
    have eru : ∀ k, rol u 6 8 k = rol w 6 8 k := fun k => by rw [← er]; unfold rol; rw [(hu 6 (by omega)).1, (hu 8 (by omega)).1]
    funext k
    by_cases h8 : k < 8
    · show (if k < 8 then gI w2 (a + 1) k else _) = (if k < 8 then (if bt (gI w a 1) k = 0 then maxI 0 (bC w a k - 1) else minI 99 (bC w a k + 2)) else _)
      rw [if_pos h8, if_pos h8, q4 k h8, h1, eu1]
      have : bC w a k = gI w (a + 1) k := by unfold bC; rw [if_pos h8]
      rw [this]
    · by_cases h16 : k < 16
      · have e16 : bC w2 a k = gI w2 a (k - 7) := by unfold bC; rw [if_neg h8, if_pos h16]
        rw [e16, q3]
        rcases (show k = 8 ∨ k = 10 ∨ k = 14 ∨ k = 9 ∨ k = 11 ∨ k = 12 ∨ k = 13 ∨ k = 15 by omega) with rfl | rfl | rfl | rfl | rfl | rfl | rfl | rfl
        · exact h1
        · show gI u a 3 + 1 = gI w a 3 + 1
          rw [h3]
        · show gI u a 7 + _ = gI w a 7 + feesT (tC w t) (gI w a 1)
          rw [h7, h1]
          congr 1
          exact sumR_congr 8 0 (fun i _ _ => by rw [eru]; rfl)
        · exact hk 2 (by omega)
        · exact hk 4 (by omega)
        · exact hk 5 (by omega)
        · exact hk 6 (by omega)
        · exact hk 8 (by omega)
      · have e16 : bC w2 a k = 0 := by unfold bC; rw [if_neg h8, if_neg h16]
        have e17 : bC w a k = 0 := by unfold bC; rw [if_neg h8, if_neg h16]
        rw [e16]
        unfold mi0
        rw [if_neg h8, if_neg (by omega), if_neg (by omega), if_neg (by omega), if_neg (by omega), if_neg (by omega), if_neg (by omega), e17]
  unfold P_X9_ring
  rw [bnd_r e1, lt_v]
  show ∃ w2, _ = some (if loudT (tC w t) (bC w a) (gI w a 1) ≤ 0 then 0 else 1, w2) ∧ _
  have hm : ∀ k, mi0 (tC w t) (bC w a) k = mi0 (tC w t) (bC w a) k := fun _ => rfl
  by_cases hl : loudT (tC w t) (bC w a) (gI w a 1) ≤ 0
  · have q1 : gI (sI w1 a 5 (gI w1 a 5 + 1)) a 5 = gI w a 5 + 1 := by rw [gI_sI, if_pos rfl, if_pos rfl, ea]
    have q2 : gI (sI w1 a 5 (gI w1 a 5 + 1)) t 5 = gI w t 5 := by rw [gI_sI, if_neg (by rcases ok.1 with rfl | rfl <;> omega), et]
    rw [if_pos hl, if_pos rfl, lt_v, q1, q2]
    have hl' : loudT (tC w t) (bC w a) (bC w a 8) ≤ 0 := hl
    have m9 : mi0 (tC w t) (bC w a) 9 = gI w a 2 := by rw [mi0_9, if_pos hl']; rfl
    have m11 : mi0 (tC w t) (bC w a) 11 = gI w a 4 := by rw [mi0_11, if_pos hl']; rfl
    have m12 : mi0 (tC w t) (bC w a) 12 = gI w a 5 + 1 := by rw [mi0_12, if_pos hl']; rfl
    have m13 : mi0 (tC w t) (bC w a) 13 = if gI w a 5 + 1 = gI w t 5 + 1 then gI w a 6 + 1 else gI w a 6 := by rw [mi0_13, if_pos hl']; rfl
    have m15 : mi0 (tC w t) (bC w a) 15 = gI w a 8 := rfl
    by_cases hs : gI w a 5 + 1 = gI w t 5 + 1
    · rw [if_pos hs] at m13
      rw [if_pos hs, lt_v]
      refine fin _ 0 (by decide) ?_ ?_ ?_ ?_ ?_
      · exact Fr.ofI.tr Fr.ofI (fun _ h => h) (fun _ h => h)
      · simp only [gI_sI]; exact ea 1
      · simp only [gI_sI]; exact ea 3
      · simp only [gI_sI]; exact ea 7
      · intro k hk
        simp only [gI_sI, if_true]
        rcases hk with rfl | rfl | rfl | rfl | rfl
        · rw [m9]; exact ea 2
        · rw [m11]; exact ea 4
        · rw [m12, ← ea 5]; rfl
        · rw [m13, ← ea 6]; rfl
        · rw [m15]; exact ea 8
    · rw [if_neg hs] at m13
      rw [if_neg hs]
      refine fin _ 0 (by decide) ?_ ?_ ?_ ?_ ?_
      · exact Fr.ofI
      · simp only [gI_sI]; exact ea 1
      · simp only [gI_sI]; exact ea 3
      · simp only [gI_sI]; exact ea 7
      · intro k hk
        simp only [gI_sI, if_true]
        rcases hk with rfl | rfl | rfl | rfl | rfl
        · rw [m9]; exact ea 2
        · rw [m11]; exact ea 4
        · rw [m12, ← ea 5]; rfl
        · rw [m13]; exact ea 6
        · rw [m15]; exact ea 8
  · rw [if_neg hl, if_neg (show ¬ (1 : Int32) = 0 by decide), lt_v, lt_v]
    have hl' : ¬ loudT (tC w t) (bC w a) (bC w a 8) ≤ 0 := hl
    have m9 : mi0 (tC w t) (bC w a) 9 = if iremI (gI w a 4 + 1) 10 = 0 then maxI 0 (gI w a 2 - 1) else gI w a 2 := by rw [mi0_9, if_neg hl']; rfl
    have m11 : mi0 (tC w t) (bC w a) 11 = gI w a 4 + 1 := by rw [mi0_11, if_neg hl']; rfl
    have m12 : mi0 (tC w t) (bC w a) 12 = 0 := by rw [mi0_12, if_neg hl']
    have m13 : mi0 (tC w t) (bC w a) 13 = gI w a 6 := by rw [mi0_13, if_neg hl']; rfl
    have m15 : mi0 (tC w t) (bC w a) 15 = gI w a 8 := rfl
    have er4 : gI (sI (sI w1 a 4 (gI w1 a 4 + 1)) a 5 0) a 4 = gI w a 4 + 1 := by simp only [gI_sI, if_true]; rw [ea]; rfl
    rw [er4]
    by_cases hs : iremI (gI w a 4 + 1) 10 = 0
    · rw [if_pos hs] at m9
      rw [if_pos hs, lt_v]
      refine fin _ 1 (by decide) ?_ ?_ ?_ ?_ ?_
      · exact (Fr.ofI.tr Fr.ofI (fun _ h => h) (fun _ h => h)).tr Fr.ofI (fun _ h => h) (fun _ h => h)
      · simp only [gI_sI]; exact ea 1
      · simp only [gI_sI]; exact ea 3
      · simp only [gI_sI]; exact ea 7
      · intro k hk
        simp only [gI_sI, if_true]
        rcases hk with rfl | rfl | rfl | rfl | rfl
        · rw [m9, ← ea 2]; rfl
        · rw [m11, ← ea 4]; rfl
        · rw [m12]; rfl
        · rw [m13]; exact ea 6
        · rw [m15]; exact ea 8
    · rw [if_neg hs] at m9
      rw [if_neg hs]
      refine fin _ 1 (by decide) ?_ ?_ ?_ ?_ ?_
      · exact Fr.ofI.tr Fr.ofI (fun _ h => h) (fun _ h => h)
      · simp only [gI_sI]; exact ea 1
      · simp only [gI_sI]; exact ea 3
      · simp only [gI_sI]; exact ea 7
      · intro k hk
        simp only [gI_sI, if_true]
        rcases hk with rfl | rfl | rfl | rfl | rfl
        · rw [m9]; exact ea 2
        · rw [m11, ← ea 4]; rfl
        · rw [m12]; rfl
        · rw [m13]; exact ea 6
        · rw [m15]; exact ea 8

