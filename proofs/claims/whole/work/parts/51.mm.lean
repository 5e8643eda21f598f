-- ===== the model: how loud, who doubts, a minute =====
def loudV (T : Tw) (b : Bl) (they tired : Int32) : Int32 := if they = 0 then 0 else if b 9 = 0 then 0 else valT T (sumR (fun i => if bt they i = 0 then 0 else T 0 i) 0 8) tired (bc they) (T 4 2) (T 4 3) (b 9) (iremI (b 10) 60)
theorem loudV_T (T : Tw) (b : Bl) (s : Int32) : loudV T b s (sumR (fun i => if bt s i = 0 then 0 else b i) 0 8) = loudT T b s := rfl
def Sc (b _k : Nat) : Prop := b = 101 ∨ b = 102
theorem Sc_Mp {a k : Nat} (h : Sc a k) : ¬ Mp a k := by unfold Sc at h; unfold Mp; omega
theorem v_X11_loudBy {F : Nat} (hF : 100 ≤ F) {w : Wd} {T : Tw} {r p N a : Nat} (ok : okTw T r p N) (h : MT w T r p N) (ha : isRw a) (s t : Int32) : ∃ w2, P_X11_loudBy F w a s t = some (loudV T (rM w a) s t, w2) ∧ Fm Sc w w2 := by
  have hl := rw_len ha
  have ha1 : a ≠ 102 ∧ a ≠ 101 := by rcases ha with rfl | rfl | rfl <;> decide
  unfold P_X11_loudBy loudV
  rw [rM_k (by decide), rM_k (by decide)]
  by_cases h0 : s = 0
  · rw [if_pos h0, if_pos h0]; exact ⟨w, rfl, Fm.rfl'⟩
  rw [if_neg h0, if_neg h0, hl]
  simp only [gd1, GL]
  by_cases h1 : gI w a 9 = 0
  · rw [if_pos h1, if_pos h1]; exact ⟨w, rfl, Fm.rfl'⟩
  rw [if_neg h1, if_neg h1, bnd_r (m_str hF ok h s)]
  simp only [lt_v, bnd_r (v_bc F _ s)]
  have e94 : ∀ k, gI w 94 k = gI w 94 k := fun _ => rfl
  simp only [gIa (show (94 : Nat) ≠ 102 by decide), gIa ha1.1, h.2.2.1, h.2.2.2.1]
  generalize hw : sI (sI (sI (sI (sI (sI (sI w 102 0 (sumR (fun i => if bt s i = 0 then 0 else T 0 i) 0 8)) 102 1 t) 102 2 (bc s)) 102 3 (T 4 2)) 102 4 (T 4 3)) 102 5 (gI w a 9)) 102 6 (iremI (gI w a 10) 60) = w1
  have f1 : Fm Sc w w1 := by
    rw [← hw]
    exact ((((((Fm.rfl'.sI (.inr rfl)).sI (.inr rfl)).sI (.inr rfl)).sI (.inr rfl)).sI (.inr rfl)).sI (.inr rfl)).sI (.inr rfl)
  have hv : ∀ k, k < 7 → gI w1 102 k = vals (sumR (fun i => if bt s i = 0 then 0 else T 0 i) 0 8) t (bc s) (T 4 2) (T 4 3) (gI w a 9) (iremI (gI w a 10) 60) k := by
    intro k hk
    rw [← hw]
    simp only [gI_sI, if_true]
    unfold vals
    rcases (show k = 0 ∨ k = 1 ∨ k = 2 ∨ k = 3 ∨ k = 4 ∨ k = 5 ∨ k = 6 by omega) with rfl | rfl | rfl | rfl | rfl | rfl | rfl <;> rfl
  obtain ⟨w2, e1, e2⟩ := v_X11_ruled hF ok (MT_fr f1 (fun _ _ h => Sc_Mp h) h) _ _ _ _ _ _ _ hv
  rw [bnd_r e1]
  exact ⟨w2, rfl, f1.tr (e2.imp (fun _ _ h => .inl h))⟩
theorem v_X11_loudOf {F : Nat} (hF : 100 ≤ F) {w : Wd} {T : Tw} {r p N a : Nat} (ok : okTw T r p N) (h : MT w T r p N) (ha : isRw a) (hz : ∀ k, r ≤ k → k < 8 → gI w a k = 0) (s : Int32) : ∃ w2, P_X11_loudOf F w a s = some (loudT T (rM w a) s, w2) ∧ Fm Sc w w2 := by
  obtain ⟨w2, e1, e2⟩ := v_X11_loudBy hF ok h ha s (sumR (fun i => if bt s i = 0 then 0 else rM w a i) 0 8)
  unfold P_X11_loudOf
  rw [bnd_r (m_tir hF ok h ha hz s), bnd_r e1, loudV_T]
  exact ⟨w2, rfl, e2⟩
/-- whom the town's rule makes doubt: by this silence, by those who doubted ahead -/
def dG (T : Tw) (sil ahead : Int32) (i : Nat) : Int32 := if T 2 i ≤ sil then bit1 i else if T 3 i ≤ 0 then 0 else if bc (ahead &&& (bit1 i ^^^ (-1))) < T 3 i then 0 else bit1 i
theorem l_X11_doubtsGo (F : Nat) {T : Tw} {r p N a : Nat} (hp : p ≤ 8) (ha : isRw a) (x : Int32) (kk : Wd → Option Wd) : ∀ m j, j + m = p → ∀ n, m < n → ∀ w, MT w T r p N →
    ∃ w2, L_X11_doubtsGo_7 F a x kk n w (nI j) = kk w2 ∧ Fm (fun b k => b = a ∧ k = 15) w w2 ∧ gI w2 a 15 = gI w a 15 ||| orR (dG T (gI w a 12) x) j m := by
  have hl := rw_len ha
  have ham : ∀ b k, (b = a ∧ k = 15) → ¬ Mp b k := by
    intro b k hb
    unfold Mp
    rcases ha with rfl | rfl | rfl <;> omega
  intro m
  induction m with
  | zero =>
    intro j hj n hn w h
    obtain ⟨n, rfl⟩ : ∃ q, n = q + 1 := ⟨n - 1, by omega⟩
    rw [L_X11_doubtsGo_7, h.2.1, if_pos (nI_le (by omega) (lt31 (by omega)))]
    exact ⟨w, rfl, Fm.rfl', (or0 _).symm⟩
  | succ m ih =>
    intro j hj n hn w h
    obtain ⟨n, rfl⟩ : ∃ q, n = q + 1 := ⟨n - 1, by omega⟩
    have h7 := h.2.2.2.2.2.2.1 j (by omega)
    have go : ∀ x30 : Int32, x30 = dG T (gI w a 12) x j → ∃ w2, L_X11_doubtsGo_7 F a x kk n (sI w a 15 (gI w a 15 ||| x30)) (nI j + 1) = kk w2 ∧ Fm (fun b k => b = a ∧ k = 15) w w2 ∧ gI w2 a 15 = gI w a 15 ||| orR (dG T (gI w a 12) x) j (m + 1) := by
      intro x30 hx
      have f1 : Fm (fun b k => b = a ∧ k = 15) w (sI w a 15 (gI w a 15 ||| x30)) := Fm.rfl'.sI ⟨rfl, rfl⟩
      obtain ⟨w2, e1, e2, e3⟩ := ih (j + 1) (by omega) n (by omega) _ (MT_fr f1 ham h)
      refine ⟨w2, by rw [nI_1]; exact e1, f1.tr e2, ?_⟩
      rw [e3, gIs, gIk (show (12 : Nat) ≠ 15 by decide), hx, orA]
      rfl
    rw [L_X11_doubtsGo_7, h.2.1, if_neg (nI_ge (by omega) (lt31 (by omega))), bnd_r (v_bc F w _), hl]
    simp only [gd1, GL]
    rw [gd_t (inB_n (show j < 8 by omega) (lt31 (by omega))), nI_clamp (lt31 (by omega)), h7.1, h7.2]
    have e60 : K_X11_doubtsGo_60 F a x kk (L_X11_doubtsGo_7 F a x kk n) w (nI j) = L_X11_doubtsGo_7 F a x kk n (sI w a 15 (gI w a 15 ||| bit1 j)) (nI j + 1) := by
      unfold K_X11_doubtsGo_60 K_X11_doubtsGo_65
      rw [hl]
      simp only [gd1, GL, lt_v]
      rw [if_neg (by decide)]
      rfl
    have e64 : K_X11_doubtsGo_64 F a x kk (L_X11_doubtsGo_7 F a x kk n) w (nI j) = L_X11_doubtsGo_7 F a x kk n (sI w a 15 (gI w a 15 ||| 0)) (nI j + 1) := by
      unfold K_X11_doubtsGo_64 K_X11_doubtsGo_65
      rw [hl]
      simp only [gd1, GL, lt_v]
      rw [if_pos trivial]
    by_cases h1 : T 2 j ≤ gI w a 12
    · rw [if_pos h1, e60]
      exact go _ (by unfold dG; rw [if_pos h1])
    · rw [if_neg h1, gd_t (inB_n (show j < 8 by omega) (lt31 (by omega)))]
      by_cases h2 : T 3 j ≤ 0
      · rw [if_pos h2, e64]
        exact go _ (by unfold dG; rw [if_neg h1, if_pos h2])
      · rw [if_neg h2, gd_t (inB_n (show j < 8 by omega) (lt31 (by omega)))]
        simp only [lt_v]
        show ∃ w2, L_X11_doubtsGo_7 F a x kk n (sI w a 15 (gI w a 15 ||| if (if bc (x &&& (bit1 j ^^^ (-1))) < T 3 j then (0 : Int32) else 1) = 0 then 0 else bit1 j)) (nI j + 1) = kk w2 ∧ _
        by_cases h3 : bc (x &&& (bit1 j ^^^ (-1))) < T 3 j
        · rw [if_pos h3, if_pos rfl]
          exact go _ (by unfold dG; rw [if_neg h1, if_neg h2, if_pos h3])
        · rw [if_neg h3, if_neg (by decide)]
          exact go _ (by unfold dG; rw [if_neg h1, if_neg h2, if_neg h3])
theorem orR_or (f g : Nat → Int32) : ∀ m j, orR (fun i => f i ||| g i) j m = orR f j m ||| orR g j m := by
  intro m
  induction m with
  | zero => intro j; exact (or0 _).symm
  | succ m ih =>
    intro j
    show f j ||| g j ||| orR (fun i => f i ||| g i) (j + 1) m = f j ||| orR f (j + 1) m ||| (g j ||| orR g (j + 1) m)
    rw [ih, orA, orA, ← orA (g j), ← orA (orR f (j + 1) m), Int32.or_comm (g j)]
theorem ors (x : Int32) : x ||| x = x := Int32.or_self
theorem dG_hm {T : Tw} {r p N : Nat} (ok : okTw T r p N) (sil x : Int32) : orR (dG T sil x) 0 p = hearT T sil ||| movT T x := by
  unfold hearT movT
  rw [← orR_or]
  obtain ⟨o1, o2, o3, o4, o5, o6, o7, o8, o9, o10, -⟩ := ok
  refine orR_upto o2 (fun i hi => ?_) (fun i hi hi2 => ?_)
  · unfold dG
    rw [o4, if_neg (nI_ge hi (lt31 (by omega)))]
    obtain ⟨f, hf, ef⟩ := o10 i
    by_cases h1 : T 2 i ≤ sil
    · rw [if_pos h1, if_pos h1]
      split
      · exact (or0 _).symm
      · split
        · exact (ors _).symm
        · exact (or0 _).symm
    · rw [if_neg h1, if_neg h1, zor]
      by_cases h0 : f = 0
      · rw [ef, h0]; rfl
      · rw [if_neg (show ¬ T 3 i ≤ 0 by rw [ef]; exact nI_nle (by omega) (lt31 (by omega))), if_neg (show ¬ T 3 i = 0 by rw [ef]; exact nI_ne0 (by omega) (lt31 (by omega)))]
        by_cases h3 : bc (x &&& (bit1 i ^^^ (-1))) < T 3 i
        · rw [if_pos h3, if_neg (Int32.not_le.mpr h3)]
        · rw [if_neg h3, if_pos (Int32.not_lt.mp h3)]
  · rw [o4, if_pos (nI_le hi (lt31 (by omega))), (o8 i hi).2, if_pos rfl]
    rfl
theorem v_X11_doubtsGo {F : Nat} (hF : 100 ≤ F) {w : Wd} {T : Tw} {r p N a : Nat} (ok : okTw T r p N) (h : MT w T r p N) (ha : isRw a) : ∃ w2, P_X11_doubtsGo F w a = some w2 ∧ Fm (fun b k => b = a ∧ k = 15) w w2 ∧ gI w2 a 15 = gI w a 15 ||| (hearT T (gI w a 12) ||| movT T (gI w a 15)) := by
  obtain ⟨w2, e1, e2, e3⟩ := l_X11_doubtsGo F ok.2.1 ha (gI w a 15) (fun w => some w) p 0 (by omega) F (by have := ok.2.1; omega) w h
  unfold P_X11_doubtsGo
  rw [rw_len ha]
  simp only [gd1, GL, lt_v]
  rw [dG_hm ok] at e3
  exact ⟨w2, e1, e2, e3⟩
-- a minute
theorem l_X11_minuteGoes (F : Nat) {T : Tw} {r p N a : Nat} (hr : r ≤ 8) (ha : isRw a) (x : Int32) (kk : Wd → Option (Int32 × Wd)) : ∀ m j, j + m = r → ∀ n, m < n → ∀ w, MT w T r p N →
    ∃ w2, L_X11_minuteGoes_109 F a x kk n w (nI j) = kk w2 ∧ Fm (fun b k => b = a ∧ k < 8) w w2 ∧ ∀ k, k < 8 → gI w2 a k = if j ≤ k ∧ k < r then (if bt (gI w a 8) k = 0 then maxI 0 (gI w a k - 1) else minI 99 (gI w a k + 2)) else gI w a k := by
  have hl := rw_len ha
  have ham : ∀ b k, (b = a ∧ k < 8) → ¬ Mp b k := by
    intro b k hb
    unfold Mp
    rcases ha with rfl | rfl | rfl <;> omega
  intro m
  induction m with
  | zero =>
    intro j hj n hn w h
    obtain ⟨n, rfl⟩ : ∃ q, n = q + 1 := ⟨n - 1, by omega⟩
    rw [L_X11_minuteGoes_109, h.1, if_pos (nI_le (by omega) (lt31 (by omega)))]
    exact ⟨w, rfl, Fm.rfl', fun k _ => by rw [if_neg (by omega)]⟩
  | succ m ih =>
    intro j hj n hn w h
    obtain ⟨n, rfl⟩ : ∃ q, n = q + 1 := ⟨n - 1, by omega⟩
    have go : ∀ v : Int32, v = (if bt (gI w a 8) j = 0 then maxI 0 (gI w a j - 1) else minI 99 (gI w a j + 2)) → ∃ w2, K_X11_minuteGoes_152 F a x kk (L_X11_minuteGoes_109 F a x kk n) w (nI j) v (nI j) = kk w2 ∧ Fm (fun b k => b = a ∧ k < 8) w w2 ∧ ∀ k, k < 8 → gI w2 a k = if j ≤ k ∧ k < r then (if bt (gI w a 8) k = 0 then maxI 0 (gI w a k - 1) else minI 99 (gI w a k + 2)) else gI w a k := by
      intro v hv
      have f1 : Fm (fun b k => b = a ∧ k < 8) w (sI w a j v) := Fm.rfl'.sI ⟨rfl, by omega⟩
      obtain ⟨w2, e1, e2, e3⟩ := ih (j + 1) (by omega) n (by omega) _ (MT_fr f1 ham h)
      refine ⟨w2, ?_, f1.tr e2, fun k hk => ?_⟩
      · unfold K_X11_minuteGoes_152
        rw [hl, gd_t (inB_n (show j < 16 by omega) (lt31 (by omega))), lt_v, lt_v, nI_clamp (lt31 (by omega)), nI_1]
        exact e1
      · rw [e3 k hk, gIk (show (8 : Nat) ≠ j by omega)]
        by_cases hkj : k = j
        · subst hkj; rw [gIs, if_neg (by omega), if_pos (by omega)]; exact hv
        · rw [gIk hkj]
          by_cases hq : j + 1 ≤ k ∧ k < r
          · rw [if_pos hq, if_pos (show j ≤ k ∧ k < r by omega)]
          · rw [if_neg hq, if_neg (show ¬ (j ≤ k ∧ k < r) by omega)]
    rw [L_X11_minuteGoes_109, h.1, if_neg (nI_ge (by omega) (lt31 (by omega))), hl]
    simp only [gd1, GL]
    rw [bnd_r (v_X11_has F w _ j), gd_t (inB_n (show j < 16 by omega) (lt31 (by omega))), gd_t (inB_n (show j < 16 by omega) (lt31 (by omega))), nI_clamp (lt31 (by omega))]
    by_cases hb : bt (gI w a 8) j = 0
    · rw [if_pos hb]; exact go _ (by rw [if_pos hb])
    · rw [if_neg hb]; exact go _ (by rw [if_neg hb])
/-- what a minute may change on the model's side -/
def Mn (a : Nat) (b _k : Nat) : Prop := b = a ∨ b = 101 ∨ b = 102
theorem Mn_Mp {a : Nat} (ha : isRw a) {b k : Nat} (h : Mn a b k) : ¬ Mp b k := by
  unfold Mn at h
  unfold Mp
  rcases ha with rfl | rfl | rfl <;> omega
theorem v_X11_mK {F : Nat} (hF : 100 ≤ F) {w : Wd} {T : Tw} {r p N a : Nat} (ok : okTw T r p N) (h : MT w T r p N) (ha : isRw a) (x : Int32) (hx : isZO x = true) : ∃ w2, K_X11_minuteGoes_107 F a w x = some (x, w2) ∧ Fm (Mn a) w w2 ∧
    ∀ k, k < 16 → gI w2 a k = if k < r then (if bt (gI w a 8) k = 0 then maxI 0 (gI w a k - 1) else minI 99 (gI w a k + 2)) else if k = 14 then gI w a 14 + feesT T (gI w a 8) else if k = 10 then gI w a 10 + 1 else if k = 15 then gI w a 15 ||| (hearT T (gI w a 12) ||| movT T (gI w a 15)) else gI w a k := by
  have hl := rw_len ha
  have hr := ok.1
  have hMn : ∀ {b k}, Mn a b k → ¬ Mp b k := fun h => Mn_Mp ha h
  unfold K_X11_minuteGoes_107
  rw [hl]
  simp only [gd1, GL, lt_v]
  obtain ⟨w1, e1, e2, e3⟩ := l_X11_minuteGoes F hr ha x (fun w => bnd (P_X11_sumOf F w (gI w a 8) 91) (fun x39 w38 => bnv (P_X11_doubtsGo F (sI (sI w38 a 14 (gI w a 14 + x39)) a 10 (gI (sI w38 a 14 (gI w a 14 + x39)) a 10 + 1)) a) (fun w45 => gd (isZO x) (some (x, w45))))) r 0 (by omega) F (by omega) w h
  have f1 : Fm (Mn a) w w1 := e2.imp (fun _ _ h => .inl h.1)
  have h1 := MT_fr f1 (fun _ _ h => hMn h) h
  have k8 : ∀ k, 8 ≤ k → gI w1 a k = gI w a k := fun k hk => (e2 a k (by omega)).1
  have f2 : Fm (Mn a) w1 (sI (sI w1 a 14 (gI w1 a 14 + feesT T (gI w1 a 8))) a 10 (gI (sI w1 a 14 (gI w1 a 14 + feesT T (gI w1 a 8))) a 10 + 1)) := (Fm.rfl'.sI (.inl rfl)).sI (.inl rfl)
  obtain ⟨w2, g1, g2, g3⟩ := v_X11_doubtsGo hF ok (MT_fr f2 (fun _ _ h => hMn h) h1) ha
  refine ⟨w2, ?_, (f1.tr f2).tr (g2.imp (fun _ _ h => .inl h.1)), fun k hk => ?_⟩
  · refine Eq.trans e1 ?_
    show bnd (P_X11_sumOf F w1 (gI w1 a 8) 91) _ = _
    rw [bnd_r (m_fee hF ok h1 _), bnv_r g1, gd_t hx]
  · by_cases h15 : k = 15
    · subst h15
      rw [g3, if_neg (by omega), if_neg (by decide), if_neg (by decide), if_pos rfl]
      rw [gIk (show (15 : Nat) ≠ 10 by decide), gIk (show (15 : Nat) ≠ 14 by decide), gIk (show (12 : Nat) ≠ 10 by decide), gIk (show (12 : Nat) ≠ 14 by decide), k8 15 (by decide), k8 12 (by decide)]
    · rw [(g2 a k (by omega)).1]
      by_cases h10 : k = 10
      · subst h10
        rw [gIs, gIk (show (10 : Nat) ≠ 14 by decide), k8 10 (by decide), if_neg (by omega), if_neg (by decide), if_pos rfl]
      · rw [gIk h10]
        by_cases h14 : k = 14
        · subst h14
          rw [gIs, k8 14 (by decide), k8 8 (by decide), if_neg (by omega), if_pos rfl]
        · rw [gIk h14]
          by_cases hkr : k < r
          · rw [e3 k (by omega), if_pos (by omega), if_pos hkr]
          · rw [if_neg hkr, if_neg h14, if_neg h10, if_neg h15]
            by_cases h8 : k < 8
            · rw [e3 k h8, if_neg (by omega)]
            · exact k8 k (by omega)
theorem max0 {x : Int32} (h : ¬ x < 0) : maxI 0 (x - 0) = x := by
  unfold maxI
  rw [Int32.sub_zero]
  by_cases h1 : 0 < x
  · rw [if_pos h1]
  · rw [if_neg h1]
    rw [Int32.lt_iff_toInt_lt] at h h1
    have e0 : (0 : Int32).toInt = 0 := by decide
    exact i32_ext (by omega)
theorem v_X11_minuteGoes {F : Nat} (hF : 100 ≤ F) {w : Wd} {T : Tw} {r p N a : Nat} (ok : okTw T r p N) (h : MT w T r p N) (ha : isRw a) (hz : zB (rM w a) r) : ∃ w2, P_X11_minuteGoes F w a = some (if loudT T (rM w a) (rM w a 8) ≤ 0 then 0 else 1, w2) ∧ Fm (Mn a) w w2 ∧ rM w2 a = mi T (rM w a) := by
  have hl := rw_len ha
  have ha1 : a ≠ 102 ∧ a ≠ 101 ∧ a ≠ 94 := by rcases ha with rfl | rfl | rfl <;> decide
  have hMn : ∀ {b k}, Mn a b k → ¬ Mp b k := fun h => Mn_Mp ha h
  have hr := ok.1
  obtain ⟨hz1, hz2⟩ := hz
  obtain ⟨w1, e1, e2⟩ := v_X11_loudOf hF ok h ha (fun k h1 h2 => by rw [← (hz1 k h1 h2).1, rM_k (by omega)]) (gI w a 8)
  have f1 : Fm (Mn a) w w1 := e2.imp (fun _ _ h => .inr h)
  have h1 := MT_fr f1 (fun _ _ h => hMn h) h
  have ea : ∀ k, gI w1 a k = gI w a k := fun k => (e2 a k (by unfold Sc; omega)).1
  unfold P_X11_minuteGoes
  rw [hl]
  simp only [gd1, GL, lt_v]
  rw [bnd_r e1]
  show ∃ w2, _ = some (if loudT T (rM w a) (gI w a 8) ≤ 0 then 0 else 1, w2) ∧ _
  -- behind the first half
  have fin : ∀ (u : Wd) (x : Int32), isZO x = true → Fm (Mn a) w1 u → (∀ k, k < 16 → ¬ k = 9 → ¬ k = 11 → ¬ k = 12 → ¬ k = 13 → gI u a k = gI w a k) → (∀ k, k = 9 ∨ k = 11 ∨ k = 12 ∨ k = 13 → gI u a k = mi0 T (rM w a) k) →
      ∃ w2, K_X11_minuteGoes_107 F a u x = some (x, w2) ∧ Fm (Mn a) w w2 ∧ rM w2 a = mi T (rM w a) := by
    intro u x hx hu hk hk2
    obtain ⟨w2, q1, q2, q3⟩ := v_X11_mK hF ok (MT_fr hu (fun _ _ h => hMn h) h1) ha x hx
    refine ⟨w2, q1, (f1.tr hu).tr q2, ?_⟩
    funext k
    by_cases h16 : k < 16
    · rw [rM_k h16, q3 k h16, hk 8 (by decide) (by decide) (by decide) (by decide) (by decide), hk2 12 (by omega)]
      rcases (show k < 8 ∨ k = 9 ∨ k = 11 ∨ k = 12 ∨ k = 13 ∨ k = 8 ∨ k = 10 ∨ k = 14 ∨ k = 15 by omega) with h8 | rfl | rfl | rfl | rfl | rfl | rfl | rfl | rfl
      · have e : mi T (rM w a) k = if bt (gI w a 8) k = 0 then maxI 0 (gI w a k - 1) else minI 99 (gI w a k + 2) := by
          unfold mi mi0
          rw [if_neg (by omega), if_pos h8, rM_k (show 8 < 16 by decide), rM_k h16]
        rw [e, hk k h16 (by omega) (by omega) (by omega) (by omega)]
        by_cases hkr : k < r
        · rw [if_pos hkr]
        · rw [if_neg hkr, if_neg (by omega), if_neg (by omega), if_neg (by omega)]
          obtain ⟨z1, z2⟩ := hz1 k (by omega) h8
          rw [rM_k h16] at z1
          rw [rM_k (show 8 < 16 by decide)] at z2
          rw [z1, z2]
          rfl
      · rw [if_neg (by omega)]; exact hk2 9 (by omega)
      · rw [if_neg (by omega)]; exact hk2 11 (by omega)
      · rw [if_neg (by omega)]; exact hk2 12 (by omega)
      · rw [if_neg (by omega)]; exact hk2 13 (by omega)
      · rw [if_neg (by omega)]; exact hk 8 (by decide) (by decide) (by decide) (by decide) (by decide)
      · rw [if_neg (by omega)]
        show gI u a 10 + 1 = gI w a 10 + 1
        rw [hk 10 (by decide) (by decide) (by decide) (by decide) (by decide)]
      · rw [if_neg (by omega)]
        show gI u a 14 + _ = gI w a 14 + feesT T (gI w a 8)
        rw [hk 14 (by decide) (by decide) (by decide) (by decide) (by decide)]
      · rw [if_neg (by omega)]
        show gI u a 15 ||| (hearT T (mi0 T (rM w a) 12) ||| movT T (gI u a 15)) = gI w a 15 ||| (hearT T (mi0 T (rM w a) 12) ||| movT T (gI w a 15))
        rw [hk 15 (by decide) (by decide) (by decide) (by decide) (by decide)]
    · have e0 : ∀ u, rM u a k = 0 := fun u => if_neg h16
      rw [e0]
      unfold mi mi0
      rw [if_neg (by omega), if_neg (by omega), if_neg (by omega), if_neg (by omega), if_neg (by omega), if_neg (by omega), if_neg (by omega), if_neg (by omega), e0]
  have m5 : gI w1 94 2 = T 4 4 := h1.2.2.2.2.1
  have g94 : ∀ (u : Wd) (k : Nat) (v : Int32) (j : Nat), gI (sI u a k v) 94 j = gI u 94 j := fun u k v j => gIa (Ne.symm ha1.2.2)
  by_cases hl0 : loudT T (rM w a) (gI w a 8) ≤ 0
  · have hl' : loudT T (rM w a) (rM w a 8) ≤ 0 := hl0
    have m9 : mi0 T (rM w a) 9 = gI w a 9 := by rw [mi0_9, if_pos hl']; rfl
    have m11 : mi0 T (rM w a) 11 = gI w a 11 := by rw [mi0_11, if_pos hl']; rfl
    have m12 : mi0 T (rM w a) 12 = gI w a 12 + 1 := by rw [mi0_12, if_pos hl']; rfl
    have m13 : mi0 T (rM w a) 13 = if gI w a 12 + 1 = T 4 4 + 1 then gI w a 13 + 1 else gI w a 13 := by rw [mi0_13, if_pos hl']; rfl
    rw [if_pos hl0, if_pos rfl]
    simp only [bnd_r (v_X11_flag F _ _), g94, m5, gIs, gIk (show (13 : Nat) ≠ 12 by decide), ea]
    refine fin _ 0 (by decide) ((Fm.rfl'.sI (.inl rfl)).sI (.inl rfl)) (fun k hk a1 a2 a3 a4 => ?_) (fun k hk => ?_)
    · rw [gIk a4, gIk a3, ea]
    · rcases hk with rfl | rfl | rfl | rfl
      · rw [gIk (by decide), gIk (by decide), ea, m9]
      · rw [gIk (by decide), gIk (by decide), ea, m11]
      · rw [gIk (by decide), gIs, m12]
      · rw [gIs, m13]
        by_cases hq : gI w a 12 + 1 = T 4 4 + 1
        · rw [if_pos hq, if_pos hq, if_neg (by decide)]
        · rw [if_neg hq, if_neg hq, if_pos rfl, add0]
  · have hl' : ¬ loudT T (rM w a) (rM w a 8) ≤ 0 := hl0
    have m9 : mi0 T (rM w a) 9 = if iremI (gI w a 11 + 1) 10 = 0 then maxI 0 (gI w a 9 - 1) else gI w a 9 := by rw [mi0_9, if_neg hl']; rfl
    have m11 : mi0 T (rM w a) 11 = gI w a 11 + 1 := by rw [mi0_11, if_neg hl']; rfl
    have m12 : mi0 T (rM w a) 12 = 0 := by rw [mi0_12, if_neg hl']
    have m13 : mi0 T (rM w a) 13 = gI w a 13 := by rw [mi0_13, if_neg hl']; rfl
    rw [if_neg hl0, if_neg (show ¬ (1 : Int32) = 0 by decide)]
    simp only [bnd_r (v_X11_flag F _ _), gIs, gIk (show (11 : Nat) ≠ 12 by decide), gIk (show (9 : Nat) ≠ 12 by decide), gIk (show (9 : Nat) ≠ 11 by decide), ea]
    refine fin _ 1 (by decide) (((Fm.rfl'.sI (.inl rfl)).sI (.inl rfl)).sI (.inl rfl)) (fun k hk a1 a2 a3 a4 => ?_) (fun k hk => ?_)
    · rw [gIk a1, gIk a3, gIk a2, ea]
    · rcases hk with rfl | rfl | rfl | rfl
      · rw [gIs, m9]
        by_cases hq : iremI (gI w a 11 + 1) 10 = 0
        · rw [if_pos hq, if_pos hq, if_neg (by decide)]
        · rw [if_neg hq, if_neg hq, if_pos rfl]
          rw [rM_k (show 9 < 16 by decide)] at hz2
          exact max0 hz2
      · rw [gIk (by decide), gIk (by decide), gIs, m11]
      · rw [gIk (by decide), gIs, m12]
      · rw [gIk (by decide), gIk (by decide), gIk (by decide), ea, m13]
