-- ===== minutes thought of, on the model's side =====
theorem bt_test : ∀ s : Nat, s < 256 → ∀ k : Nat, k < 8 → bt (nI s) k = if s.testBit k then 1 else 0 := by decide +kernel
theorem bt_hi {s r k : Nat} (hs : s < 2 ^ r) (hr : r ≤ 8) (h1 : r ≤ k) (h2 : k < 8) : bt (nI s) k = 0 := by
  have := pow8 hr
  rw [bt_test s (by omega) k h2, Nat.testBit_lt_two_pow (Nat.lt_of_lt_of_le hs (Nat.pow_le_pow_right (by decide) h1))]
  rfl
theorem zB_mi0 {T : Tw} {b : Bl} {r : Nat} (h : zB b r) : zB (mi0 T b) r := by
  obtain ⟨h1, h2⟩ := h
  refine ⟨fun k hk h8 => ⟨?_, ?_⟩, ?_⟩
  · show (if k < 8 then (if bt (b 8) k = 0 then maxI 0 (b k - 1) else minI 99 (b k + 2)) else _) = 0
    rw [if_pos h8, (h1 k hk h8).2, if_pos rfl, (h1 k hk h8).1]
    rfl
  · exact (h1 k hk h8).2
  · rw [mi0_9]
    split
    · exact h2
    · split
      · unfold maxI
        split
        · rename_i q; intro q2; exact absurd (Int32.lt_trans q q2) (by decide)
        · decide
      · exact h2
theorem mi_e {T : Tw} {b : Bl} {k : Nat} (h : ¬ k = 15) : mi T b k = mi0 T b k := if_neg h
theorem zB_ext {b b2 : Bl} {r : Nat} (h : ∀ k, k < 10 → b2 k = b k) (z : zB b r) : zB b2 r := ⟨fun k h1 h2 => by rw [h k (by omega), h 8 (by decide)]; exact z.1 k h1 h2, by rw [h 9 (by decide)]; exact z.2⟩
theorem zB_mi {T : Tw} {b : Bl} {r : Nat} (h : zB b r) : zB (mi T b) r := zB_ext (fun k hk => mi_e (by omega)) (zB_mi0 h)
theorem zB_set {b : Bl} {r s : Nat} (hr : r ≤ 8) (h : zB b r) (hs : s < 2 ^ r) : zB (setR b (nI s)) r := ⟨fun k h1 h2 => ⟨by show (if k = 8 then _ else b k) = 0; rw [if_neg (by omega)]; exact (h.1 k h1 h2).1, bt_hi hs hr h1 h2⟩, h.2⟩
/-- alike but for who doubts -/
def eq15 (b b2 : Bl) : Prop := ∀ k, ¬ k = 15 → b2 k = b k
theorem loud_15 {T : Tw} {b b2 : Bl} (h : eq15 b b2) (s : Int32) : loudT T b2 s = loudT T b s := by
  unfold loudT
  rw [h 9 (by decide), h 10 (by decide), sumR_congr (f := fun i => if bt s i = 0 then 0 else b2 i) (g := fun i => if bt s i = 0 then 0 else b i) 8 0 (fun i _ h2 => by rw [h i (by omega)])]
theorem mi_15 {T : Tw} {b b2 : Bl} (h : eq15 b b2) : eq15 (mi0 T b) (mi T b2) := by
  intro k hk
  rw [mi_e hk]
  unfold mi0
  rw [loud_15 h, h 8 (by decide), h 9 (by decide), h 10 (by decide), h 11 (by decide), h 12 (by decide), h 13 (by decide), h 14 (by decide), h k hk]
theorem loud8_15 {T : Tw} {b b2 : Bl} (h : eq15 b b2) : loudT T b2 (b2 8) = loudT T b (b 8) := by rw [h 8 (by decide), loud_15 h]
theorem set_15 {b b2 : Bl} (h : eq15 b b2) (s : Int32) : eq15 (setR b s) (setR b2 s) := fun k hk => by
  show (if k = 8 then s else b2 k) = if k = 8 then s else b k
  rw [h k hk]
theorem eq15_rfl (b : Bl) : eq15 b b := fun _ _ => rfl
/-- so many minutes, and how many of them are rung ahead of the first that is not, with the town -/
def rgM (T : Tw) : Nat → Bl → Nat × Bl
  | 0, b => (0, b)
  | n + 1, b => if loudT T b (b 8) ≤ 0 then (0, mi T b) else ((rgM T n (mi T b)).1 + 1, (rgM T n (mi T b)).2)
theorem rgM_o (T : Tw) : ∀ n b b2, eq15 b b2 → (rgM T n b2).1 = (rgo T n b).1 ∧ eq15 (rgo T n b).2 (rgM T n b2).2 := by
  intro n
  induction n with
  | zero => intro b b2 h; exact ⟨rfl, h⟩
  | succ n ih =>
    intro b b2 h
    unfold rgM rgo
    rw [loud8_15 h]
    obtain ⟨i1, i2⟩ := ih _ _ (mi_15 (T := T) h)
    split
    · exact ⟨rfl, mi_15 h⟩
    · exact ⟨by rw [i1], i2⟩
def fstM (T : Tw) (s : Int32) : Nat → Nat → Bl → Nat × Bl
  | 0, j, b => (j, b)
  | m + 1, j, b => if s < mi T b 13 then (j, mi T b) else fstM T s m (j + 1) (mi T b)
theorem fstM_o (T : Tw) (s : Int32) : ∀ m j b b2, eq15 b b2 → (fstM T s m j b2).1 = (fst0 T s m j b).1 ∧ eq15 (fst0 T s m j b).2 (fstM T s m j b2).2 := by
  intro m
  induction m with
  | zero => intro j b b2 h; exact ⟨rfl, h⟩
  | succ m ih =>
    intro j b b2 h
    unfold fstM fst0
    have h1 := mi_15 (T := T) h
    rw [h1 13 (by decide)]
    split
    · exact ⟨rfl, h1⟩
    · exact ih _ _ _ h1
/-- so many minutes -/
def itM (T : Tw) : Nat → Bl → Bl
  | 0, b => b
  | n + 1, b => itM T n (mi T b)
theorem mi_11 (T : Tw) (b : Bl) : mi T b 11 = b 11 + (if loudT T b (b 8) ≤ 0 then 0 else 1) := by
  rw [mi_e (by decide), mi0_11]
  split
  · exact (add0 _).symm
  · rfl
/-- what a question to the model may change, but for what is told -/
def QN (a k : Nat) : Prop := (a = 88 ∧ (k = 0 ∨ k = 34 ∨ k = 43 ∨ k = 44)) ∨ a = 96 ∨ a = 101 ∨ a = 102 ∨ (107 ≤ a ∧ a ≤ 109) ∨ a = 114 ∨ a = 115
def Tm (a k : Nat) : Prop := (a = 88 ∧ k = 1) ∨ a = 89
def QM (a k : Nat) : Prop := QN a k ∨ Tm a k
theorem QN_Mp {a k : Nat} (h : QN a k) : ¬ Mp a k := by unfold QN at h; unfold Mp; omega
theorem QM_Mp {a k : Nat} (h : QM a k) : ¬ Mp a k := by unfold QM QN Tm at h; unfold Mp; omega
theorem Mn_QN {b k : Nat} (h : Mn 96 b k) : QN b k := by unfold Mn at h; unfold QN; omega
theorem Mn_QN2 {b k : Nat} (h : Mn 109 b k) : QN b k := by unfold Mn at h; unfold QN; omega
theorem Sc_QN {b k : Nat} (h : Sc b k) : QN b k := by unfold Sc at h; unfold QN; omega
theorem QN95 {k : Nat} (h : QN 95 k) : False := by unfold QN at h; omega
theorem QM95 {k : Nat} (h : QM 95 k) : False := by unfold QM QN Tm at h; omega
theorem Tm96 {k : Nat} (h : Tm 96 k) : False := by unfold Tm at h; omega
/-- out of w the row 96 has come to b, nothing else of account has changed -/
def MS (w w1 : Wd) (b : Bl) : Prop := Fm QN w w1 ∧ rM w1 96 = b
theorem fm_t0 {w : Wd} : Fm QN w (sI w 88 0 0) := Fm.rfl'.sI (.inl ⟨rfl, .inl rfl⟩)
theorem l_X11_puts (F : Nat) (kk : Wd → Option Wd) : ∀ m j, j + m = 16 → ∀ n, m < n → ∀ w, ∃ w2, L_X11_puts_2 F kk n w (nI j) = kk w2 ∧ Fm (Mn 96) w w2 ∧ ∀ k, k < 16 → gI w2 96 k = if j ≤ k then gI w 95 k else gI w 96 k := by
  intro m
  induction m with
  | zero =>
    intro j hj n hn w
    obtain ⟨n, rfl⟩ : ∃ q, n = q + 1 := ⟨n - 1, by omega⟩
    rw [L_X11_puts_2, if_pos (show (16 : Int32) ≤ nI j from nI_le (a := 16) (b := j) (by omega) (by omega))]
    exact ⟨w, rfl, Fm.rfl', fun k _ => by rw [if_neg (by omega)]⟩
  | succ m ih =>
    intro j hj n hn w
    obtain ⟨n, rfl⟩ : ∃ q, n = q + 1 := ⟨n - 1, by omega⟩
    rw [L_X11_puts_2, if_neg (show ¬ (16 : Int32) ≤ nI j from nI_ge (a := j) (b := 16) (by omega) (by decide)), gd_t (inB_n (show j < 16 by omega) (by omega)), gd_t (inB_n (show j < 16 by omega) (by omega)), lt_v, lt_v, nI_1, nI_clamp (by omega)]
    obtain ⟨w2, e1, e2, e3⟩ := ih (j + 1) (by omega) n (by omega) (sI w 96 j (gI w 95 j))
    refine ⟨w2, e1, (show Fm (Mn 96) w _ from Fm.rfl'.sI (.inl rfl)).tr e2, fun k hk => ?_⟩
    rw [e3 k hk, gIa (show (95 : Nat) ≠ 96 by decide)]
    by_cases hkj : k = j
    · subst hkj; rw [if_neg (by omega), gIs, if_pos (Nat.le_refl _)]
    · rw [gIk hkj]
      by_cases hq : j + 1 ≤ k
      · rw [if_pos hq, if_pos (by omega)]
      · rw [if_neg hq, if_neg (by omega)]
theorem ms_puts {F : Nat} (hF : 100 ≤ F) {w w1 : Wd} (h : Fm QN w w1) : ∃ w2, P_X11_puts F w1 = some w2 ∧ MS w w2 (rM w 95) := by
  obtain ⟨w2, e1, e2, e3⟩ := l_X11_puts F (fun w => some w) 16 0 rfl F (by omega) w1
  refine ⟨w2, e1, h.tr (e2.imp (fun _ _ h => Mn_QN h)), rM_ext (fun k hk => ?_)⟩
  rw [e3 k hk, if_pos (Nat.zero_le _), (h 95 k (fun q => QN95 q)).1]
theorem ms_rope {w w1 : Wd} {b : Bl} (h : MS w w1 b) (s : Int32) : MS w (sI w1 96 8 s) (setR b s) := ⟨h.1.sI (.inr (.inl rfl)), by rw [rM_set (by decide), h.2]; rfl⟩
/-- standing ground of the model -/
def MG (w : Wd) (T : Tw) (b : Bl) (r p N : Nat) : Prop := okTw T r p N ∧ MT w T r p N ∧ rM w 95 = b ∧ zB b r
theorem MG_fr {q : Nat → Nat → Prop} {w w1 : Wd} {T : Tw} {b : Bl} {r p N : Nat} (h : MG w T b r p N) (f : Fm q w w1) (hq : ∀ a k, q a k → ¬ Mp a k ∧ a ≠ 95) : MG w1 T b r p N := ⟨h.1, MT_fr f (fun a k h => (hq a k h).1) h.2.1, by rw [rM_fr f (fun k _ h => (hq 95 k h).2 rfl)]; exact h.2.2.1, h.2.2.2⟩
theorem MG_QN {w w1 : Wd} {T : Tw} {b : Bl} {r p N : Nat} (h : MG w T b r p N) (f : Fm QN w w1) : MG w1 T b r p N := MG_fr h f (fun _ _ h => ⟨QN_Mp h, fun e => by subst e; exact QN95 h⟩)
theorem MG_QM {w w1 : Wd} {T : Tw} {b : Bl} {r p N : Nat} (h : MG w T b r p N) (f : Fm QM w w1) : MG w1 T b r p N := MG_fr h f (fun _ _ h => ⟨QM_Mp h, fun e => by subst e; exact QM95 h⟩)
theorem ms_minute {F : Nat} (hF : 100 ≤ F) {w w1 : Wd} {T : Tw} {b c : Bl} {r p N : Nat} (g : MG w T c r p N) (h : MS w w1 b) (hz : zB b r) : ∃ w2, P_X11_minuteGoes F w1 96 = some (if loudT T b (b 8) ≤ 0 then 0 else 1, w2) ∧ MS w w2 (mi T b) := by
  have g1 := MG_QN g h.1
  obtain ⟨w2, e1, e2, e3⟩ := v_X11_minuteGoes hF g1.1 g1.2.1 (a := 96) (.inr (.inl rfl)) (by rw [h.2]; exact hz)
  rw [h.2] at e1 e3
  exact ⟨w2, e1, h.1.tr (e2.imp (fun _ _ h => Mn_QN h)), e3⟩
theorem l_X11_rungFor {F : Nat} (hF : 100 ≤ F) {w : Wd} {T : Tw} {c : Bl} {r p N : Nat} (g : MG w T c r p N) (M : Nat) (hM : M < 2 ^ 31) (kk : Wd → Option (Int32 × Wd)) : ∀ m j, j + m = M → ∀ n, m < n → ∀ w1 b, MS w w1 b → zB b r → ∃ w2, L_X11_rungFor_2 F (nI M) kk n w1 (nI j) = (if (rgM T m b).1 = m then kk w2 else some (nI (j + (rgM T m b).1), w2)) ∧ MS w w2 (rgM T m b).2 := by
  intro m
  induction m with
  | zero =>
    intro j hj n hn w1 b hs hz
    obtain ⟨n, rfl⟩ : ∃ q, n = q + 1 := ⟨n - 1, by omega⟩
    obtain rfl : j = M := by omega
    rw [L_X11_rungFor_2, if_pos (Int32.le_refl _)]
    exact ⟨w1, by rw [if_pos (show (rgM T 0 b).1 = 0 from rfl)], hs⟩
  | succ m ih =>
    intro j hj n hn w1 b hs hz
    obtain ⟨n, rfl⟩ : ∃ q, n = q + 1 := ⟨n - 1, by omega⟩
    obtain ⟨w2, e1, e2⟩ := ms_minute hF g hs hz
    rw [L_X11_rungFor_2, if_neg (nI_ge (by omega) hM), bnd_r e1]
    unfold rgM
    by_cases hl : loudT T b (b 8) ≤ 0
    · simp only [if_pos hl, if_true]
      exact ⟨w2, by rw [if_neg (by omega)]; rfl, e2⟩
    · simp only [if_neg hl]
      rw [if_neg (show ¬ (1 : Int32) = 0 by decide), lt_v, nI_1]
      obtain ⟨w3, f1, f2⟩ := ih (j + 1) (by omega) n (by omega) w2 _ e2 (zB_mi hz)
      refine ⟨w3, ?_, f2⟩
      rw [f1]
      by_cases hq : (rgM T m (mi T b)).1 = m
      · rw [if_pos hq, if_pos (by omega)]
      · rw [if_neg hq, if_neg (by omega), show j + 1 + (rgM T m (mi T b)).1 = j + ((rgM T m (mi T b)).1 + 1) from by omega]
theorem ms_rungFor {F : Nat} (hF : 2000 ≤ F) {w w1 : Wd} {T : Tw} {b c : Bl} {r p N : Nat} (g : MG w T c r p N) (h : MS w w1 b) (hz : zB b r) (n : Nat) (hn : n ≤ 999) : ∃ w2, P_X11_rungFor F w1 (nI n) = some (nI (rgo T n b).1, w2) ∧ MS w w2 (rgM T n b).2 := by
  obtain ⟨w2, e1, e2⟩ := l_X11_rungFor (F := F) (by omega) g n (by omega) (fun w => some (nI n, w)) n 0 (by omega) F (by omega) w1 b h hz
  refine ⟨w2, (show L_X11_rungFor_2 F (nI n) _ F w1 0 = _ from e1).trans ?_, e2⟩
  rw [(rgM_o T n b b (eq15_rfl b)).1]
  by_cases hq : (rgo T n b).1 = n
  · rw [if_pos hq, hq]
  · rw [if_neg hq, Nat.zero_add]
theorem l_X11_stopsIn {F : Nat} (hF : 100 ≤ F) {w : Wd} {T : Tw} {c : Bl} {r p N : Nat} (g : MG w T c r p N) (kk : Wd → Option (Int32 × Wd)) : ∀ m j, j + m = 1000 → ∀ n, m < n → ∀ w1 b, MS w w1 b → zB b r → ∃ w2, L_X11_stopsIn_6 F kk n w1 (nI j) = (if (fstM T (c 13) m j b).1 = 1000 then kk w2 else some (nI (fstM T (c 13) m j b).1, w2)) ∧ MS w w2 (fstM T (c 13) m j b).2 := by
  intro m
  induction m with
  | zero =>
    intro j hj n hn w1 b hs hz
    obtain ⟨n, rfl⟩ : ∃ q, n = q + 1 := ⟨n - 1, by omega⟩
    rw [L_X11_stopsIn_6, if_pos (show (999 : Int32) < nI j from nI_lt (a := 999) (b := j) (by omega) (by omega))]
    exact ⟨w1, by rw [if_pos (show (fstM T (c 13) 0 j b).1 = 1000 from by show j = 1000; omega)], hs⟩
  | succ m ih =>
    intro j hj n hn w1 b hs hz
    obtain ⟨n, rfl⟩ : ∃ q, n = q + 1 := ⟨n - 1, by omega⟩
    obtain ⟨w2, e1, e2⟩ := ms_minute hF g hs hz
    have h13 : gI w2 96 13 = mi T b 13 := by rw [← e2.2]; rfl
    have h23 : gI w2 95 13 = c 13 := by rw [(e2.1 95 13 (fun q => QN95 q)).1, ← g.2.2.1]; rfl
    rw [L_X11_stopsIn_6, if_neg (show ¬ (999 : Int32) < nI j from nI_nlt (a := 999) (b := j) (by omega) (by decide)), bnd_r e1]
    simp only [gd1, GL]
    rw [h13, h23]
    unfold fstM
    by_cases hl : c 13 < mi T b 13
    · simp only [if_pos hl]
      rw [if_neg (Int32.not_le.mpr hl)]
      exact ⟨w2, by rw [if_neg (show ¬ j = 1000 by omega)], e2⟩
    · simp only [if_neg hl]
      rw [if_pos (Int32.not_lt.mp hl), lt_v, nI_1]
      exact ih (j + 1) (by omega) n (by omega) w2 _ e2 (zB_mi hz)
theorem ms_stopsIn {F : Nat} (hF : 2000 ≤ F) {w w1 : Wd} {T : Tw} {c : Bl} {r p N : Nat} (g : MG w T c r p N) (h : Fm QN w w1) : ∃ w2, P_X11_stopsIn F w1 = some (nI (fst0 T (c 13) 999 1 c).1, w2) ∧ MS w w2 (fstM T (c 13) 999 1 c).2 := by
  obtain ⟨w2, e1, e2⟩ := ms_puts (F := F) (by omega) h
  rw [g.2.2.1] at e2
  obtain ⟨w3, f1, f2⟩ := l_X11_stopsIn (F := F) (by omega) g (fun w => some (1000, w)) 999 1 rfl F (by omega) w2 c e2 g.2.2.2
  unfold P_X11_stopsIn
  rw [bnv_r e1]
  refine ⟨w3, (show L_X11_stopsIn_6 F _ F w2 1 = _ from f1).trans ?_, f2⟩
  rw [(fstM_o T (c 13) 999 1 c c (eq15_rfl c)).1]
  by_cases hq : (fst0 T (c 13) 999 1 c).1 = 1000
  · rw [if_pos hq, hq]; rfl
  · rw [if_neg hq]
theorem ms_rungBy {F : Nat} (hF : 2000 ≤ F) {w w1 : Wd} {T : Tw} {c : Bl} {r p N : Nat} (g : MG w T c r p N) (h : Fm QN w w1) (s : Nat) (hs : s < 2 ^ r) (n : Nat) (hn : n ≤ 999) : ∃ w2, P_X11_rungBy F w1 (nI s) (nI n) = some (nI (alone T c (nI s) n), w2) ∧ Fm QN w w2 := by
  obtain ⟨w2, e1, e2⟩ := ms_puts (F := F) (by omega) h
  rw [g.2.2.1] at e2
  obtain ⟨w3, f1, f2⟩ := ms_rungFor hF g (ms_rope e2 (nI s)) (zB_set g.1.1 g.2.2.2 hs) n hn
  unfold P_X11_rungBy
  rw [bnv_r e1]
  simp only [gd1, GL, lt_v]
  rw [bnd_r f1]
  exact ⟨w3, rfl, f2.1⟩
theorem l_X11_goesOn {F : Nat} (hF : 100 ≤ F) {w : Wd} {T : Tw} {r p N a : Nat} (ok : okTw T r p N) (ha : isRw a) (M : Nat) (hM : M < 2 ^ 31) (s : Int32) (kk : Wd → Int32 → Option (Int32 × Wd)) : ∀ m j, j + m = M → ∀ n, m < n → ∀ w1 b, Fm (Mn a) w w1 → MT w1 T r p N → rM w1 a = b → zB b r → ∃ w2, L_X11_goesOn_5 F a (nI M) kk n w1 (b 11 - s) (nI j) = kk w2 (itM T m b 11 - s) ∧ Fm (Mn a) w w2 ∧ rM w2 a = itM T m b ∧ zB (itM T m b) r := by
  intro m
  induction m with
  | zero =>
    intro j hj n hn w1 b hs hT hb hz
    obtain ⟨n, rfl⟩ : ∃ q, n = q + 1 := ⟨n - 1, by omega⟩
    obtain rfl : j = M := by omega
    rw [L_X11_goesOn_5, if_pos (Int32.le_refl _)]
    exact ⟨w1, rfl, hs, hb, hz⟩
  | succ m ih =>
    intro j hj n hn w1 b hs hT hb hz
    obtain ⟨n, rfl⟩ : ∃ q, n = q + 1 := ⟨n - 1, by omega⟩
    obtain ⟨w2, e1, e2, e3⟩ := v_X11_minuteGoes hF ok hT ha (by rw [hb]; exact hz)
    rw [hb] at e1 e3
    rw [L_X11_goesOn_5, if_neg (nI_ge (by omega) hM), bnd_r e1, bnd_r (v_X11_flag F w2 _), lt_v, lt_v, nI_1]
    have e : b 11 - s + (if (if loudT T b (b 8) ≤ 0 then (0 : Int32) else 1) = 0 then 0 else 1) = mi T b 11 - s := by
      rw [mi_11]
      split
      · rw [if_pos rfl, add0, add0]
      · rw [if_neg (by decide), Int32.sub_eq_add_neg, Int32.sub_eq_add_neg, Int32.add_assoc, Int32.add_assoc, Int32.add_comm (-s)]
    rw [e]
    exact ih (j + 1) (by omega) n (by omega) w2 _ (hs.tr e2) (MT_fr e2 (fun _ _ h => Mn_Mp ha h) hT) e3 (zB_mi hz)
theorem ms_goesOn {F : Nat} (hF : 2000 ≤ F) {w : Wd} {T : Tw} {r p N a : Nat} (ok : okTw T r p N) (ha : isRw a) (hT : MT w T r p N) (hz : zB (rM w a) r) (n : Nat) (hn : n ≤ 999) : ∃ w2, P_X11_goesOn F w a (nI n) = some (itM T n (rM w a) 11 - rM w a 11, w2) ∧ Fm (Mn a) w w2 ∧ rM w2 a = itM T n (rM w a) ∧ zB (itM T n (rM w a)) r := by
  obtain ⟨w2, e1, e2⟩ := l_X11_goesOn (F := F) (by omega) ok ha n (by omega) (rM w a 11) (fun w x5 => some (x5, w)) n 0 (by omega) F (by omega) w _ Fm.rfl' hT rfl hz
  refine ⟨w2, ?_, e2⟩
  rw [Int32.sub_self] at e1
  exact e1
-- ===== what the model tells; questions to it =====
def TlM (w : Wd) (L : List Int64) : Prop := gI w 88 1 = nI L.length ∧ ∀ k, k < L.length → gJ w 89 k = L.getD k 0
theorem tlM_0 {w : Wd} : TlM (sI w 88 1 0) [] := ⟨by rw [gIs]; rfl, fun k hk => absurd hk (Nat.not_lt_zero _)⟩
theorem v_X11_enters (F : Nat) {w : Wd} {L : List Int64} (h : TlM w L) (hL : L.length < 24) (x : Int64) : ∃ w2, P_X11_enters F w x = some w2 ∧ Fm Tm w w2 ∧ TlM w2 (L ++ [x]) := by
  obtain ⟨h1, h2⟩ := h
  unfold P_X11_enters
  rw [h1, gd_t (inB_n hL (by omega)), lt_v, lt_v, nI_clamp (by omega)]
  refine ⟨_, rfl, (Fm.rfl'.sJ (.inr rfl)).sI (.inl ⟨rfl, rfl⟩), ?_, fun k hk => ?_⟩
  · rw [gIs, gI_sJ, h1, nI_1, List.length_append]; rfl
  · rw [List.length_append] at hk
    have hk2 : k < L.length + 1 := hk
    rw [gJ_sI, gJ_sJ, if_pos rfl]
    by_cases hkL : k = L.length
    · rw [if_pos hkL, hkL]; simp
    · rw [if_neg hkL, h2 k (by omega), List.getD_eq_getElem?_getD, List.getD_eq_getElem?_getD, List.getElem?_append_left (by omega)]
def tqM (q : Option (List Int64)) (w w2 : Wd) : Prop := match q with
  | none => gI w2 88 1 = gI w 88 1 ∧ ∀ k, gJ w2 89 k = gJ w 89 k
  | some L => TlM w2 L
/-- the model asked in w answers so, tells so, and changes nothing of account -/
def AskM (o : Option (Int32 × Wd)) (q : Ans) (w : Wd) : Prop := ∃ w2, o = some (q.1, w2) ∧ Fm QM w w2 ∧ tqM q.2 w w2
theorem am_n {w w1 : Wd} {v : Int32} (h : Fm QN w w1) : AskM (some (v, w1)) (v, none) w := ⟨w1, rfl, h.imp (fun _ _ h => .inl h), (h 88 1 (by unfold QN; omega)).1, fun k => (h 89 k (by unfold QN; omega)).2.1⟩
theorem am_t {w w1 w2 : Wd} {v : Int32} {L : List Int64} (h : Fm QN w w1) (h2 : Fm Tm w1 w2) (h3 : TlM w2 L) : AskM (some (v, w2)) (v, some L) w := ⟨w2, rfl, (h.imp (fun _ _ h => .inl h)).tr (h2.imp (fun _ _ h => .inr h)), h3⟩
/-- one number told -/
theorem am_1 {F : Nat} {w w1 : Wd} {v : Int32} (h : Fm QN w w1) (x : Int64) (f : Wd → Option (Int32 × Wd)) (hf : ∀ w2, Fm Tm w1 w2 → TlM w2 [x] → AskM (f w2) (v, some [x]) w) : AskM (bnv (P_X11_enters F (sI w1 88 1 0) x) f) (v, some [x]) w := by
  obtain ⟨w2, e1, e2, e3⟩ := v_X11_enters F (w := sI w1 88 1 0) tlM_0 (by decide) x
  rw [bnv_r e1]
  exact hf w2 ((show Fm Tm w1 _ from Fm.rfl'.sI (.inl ⟨rfl, rfl⟩)).tr e2) e3
theorem am_2 {F : Nat} {w w1 : Wd} {v : Int32} (x y : Int64) (g : Wd → Int64) (f : Wd → Option (Int32 × Wd)) (hg : ∀ w2, Fm Tm w1 w2 → g w2 = y) (hf : ∀ w2, Fm Tm w1 w2 → TlM w2 [x, y] → AskM (f w2) (v, some [x, y]) w) : AskM (bnv (P_X11_enters F (sI w1 88 1 0) x) (fun w8 => bnv (P_X11_enters F w8 (g w8)) f)) (v, some [x, y]) w := by
  obtain ⟨w2, e1, e2, e3⟩ := v_X11_enters F (w := sI w1 88 1 0) tlM_0 (by decide) x
  have e4 := (show Fm Tm w1 _ from Fm.rfl'.sI (.inl ⟨rfl, rfl⟩)).tr e2
  obtain ⟨w3, f1, f2, f3⟩ := v_X11_enters F (L := [x]) e3 (show 1 < 24 by decide) (g w2)
  rw [bnv_r e1, bnv_r f1]
  rw [hg w2 e4] at f3
  exact hf w3 (e4.tr f2) f3
