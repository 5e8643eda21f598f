-- ===== the text =====
def TxC (w : Wd) (t : Nat → Int32) (n : Nat) : Prop := gI w 1 1 = nI n ∧ n ≤ 80 ∧ ∀ k, k < n → gI w 2 k = t k
def TxM (w : Wd) (t : Nat → Int32) (n : Nat) : Prop := gI w 88 14 = nI n ∧ n ≤ 80 ∧ ∀ k, k < n → gI w 97 k = t k
/-- the model reads at a, up to e -/
def RdM (w : Wd) (t : Nat → Int32) (e a : Nat) : Prop := gI w 88 15 = nI a ∧ gI w 88 16 = nI e ∧ e ≤ 80 ∧ a ≤ e ∧ ∀ k, k < e → gI w 97 k = t k
def atP (t : Nat → Int32) (e p : Nat) : Int32 := if p < e then t p else -1
abbrev dgP (t : Nat → Int32) (e p : Nat) : Prop := ¬ atP t e p < 48 ∧ ¬ 57 < atP t e p
theorem dgP_lt {t : Nat → Int32} {e p : Nat} (h : dgP t e p) : p < e := by
  by_cases c : p < e
  · exact c
  · have := h.1; unfold atP at this; rw [if_neg c] at this; exact absurd (by decide) this
def valP (t : Nat → Int32) (e : Nat) : Nat → Nat → Int32 → Int32
  | 0, _, v => v
  | d + 1, p, v => if dgP t e p then valP t e d (p + 1) (v * 10 + atP t e p - 48) else v
def cntP (t : Nat → Int32) (e : Nat) : Nat → Nat → Nat
  | 0, _ => 0
  | d + 1, p => if dgP t e p then cntP t e d (p + 1) + 1 else 0
theorem cntP_le (t : Nat → Int32) (e : Nat) : ∀ d p, p ≤ e → p + cntP t e d p ≤ e ∧ cntP t e d p ≤ d := by
  intro d
  induction d with
  | zero => intro p h; exact ⟨h, Nat.le_refl _⟩
  | succ d ih =>
    intro p h
    rw [cntP]
    split
    · rename_i c
      have := ih (p + 1) (dgP_lt c)
      omega
    · omega
theorem v_X8_at (F : Nat) {w : Wd} {t : Nat → Int32} {n : Nat} (h : TxC w t n) (p : Nat) (hp : p < 1000) : P_X8_at F w (nI p) = some (atP t n p, w) := by
  unfold P_X8_at atP
  rw [if_neg (nI_pos (by omega)), h.1]
  by_cases c : p < n
  · have := h.2.1
    rw [if_neg (nI_ge c (by omega)), if_neg (show ¬ (80 : Int32) ≤ nI p from nI_ge (a := p) (b := 80) (by omega) (by decide)), gd_t (inB_n (by omega) (by omega)), nI_clamp (by omega), h.2.2 p c, if_pos c]
  · rw [if_pos (nI_le (by omega) (by omega)), if_neg c]
theorem v_X8_digitAt (F : Nat) {w : Wd} {t : Nat → Int32} {n : Nat} (h : TxC w t n) (p : Nat) (hp : p < 1000) : P_X8_digitAt F w (nI p) = some (if dgP t n p then 1 else 0, w) := by
  unfold P_X8_digitAt
  rw [bnd_r (v_X8_at F h p hp), lt_v]
  by_cases c : atP t n p < 48
  · rw [if_pos c, if_neg (fun q => q.1 c)]; rfl
  · by_cases d : 57 < atP t n p
    · rw [if_neg c, if_pos d, if_neg (fun q => q.2 d)]; rfl
    · rw [if_neg c, if_neg d, if_pos ⟨c, d⟩]; rfl
theorem v_X8_number {F : Nat} (hF : 100 ≤ F) {w : Wd} {t : Nat → Int32} {n : Nat} (h : TxC w t n) (p d : Nat) (hp : p < 900) (hd : d ≤ 3) : P_X8_number F w (nI p) (nI d) = some (valP t n d p 0, w) := by
  unfold P_X8_number
  have key : ∀ m j, j + m = d → ∀ f, m < f → ∀ x, L_X8_number_5 F (nI p) (nI d) (fun w x5 => some (x5, w)) f w x (nI j) = some (valP t n m (p + j) x, w) := by
    intro m
    induction m with
    | zero =>
      intro j hj f hf x
      obtain ⟨f, rfl⟩ : ∃ q, f = q + 1 := ⟨f - 1, by omega⟩
      obtain rfl : j = d := by omega
      rw [L_X8_number_5, if_pos (Int32.le_refl _)]; rfl
    | succ m ih =>
      intro j hj f hf x
      obtain ⟨f, rfl⟩ : ∃ q, f = q + 1 := ⟨f - 1, by omega⟩
      rw [L_X8_number_5, if_neg (nI_ge (by omega) (by omega)), nI_add, bnd_r (v_X8_digitAt F h (p + j) (by omega)), valP]
      by_cases c : dgP t n (p + j)
      · rw [if_pos c, if_neg (by decide), bnd_r (v_X8_at F h (p + j) (by omega)), lt_v, lt_v, nI_1, if_pos c]
        exact ih (j + 1) (by omega) f (by omega) _
      · rw [if_neg c, if_pos rfl, if_neg c]
  exact key d 0 (by omega) F (by omega) 0
-- the model
def Rd (a k : Nat) : Prop := a = 88 ∧ k = 15
theorem RdM_at {w : Wd} {t : Nat → Int32} {e a : Nat} (h : RdM w t e a) (b : Nat) (hb : b ≤ e) : RdM (sI w 88 15 (nI b)) t e b := ⟨gIs, by rw [gIk (by decide)]; exact h.2.1, h.2.2.1, hb, fun k hk => by rw [gIa (by decide)]; exact h.2.2.2.2 k hk⟩
theorem v_X11_isDigit (F : Nat) {w : Wd} {t : Nat → Int32} {e a : Nat} (h : RdM w t e a) : P_X11_isDigit F w = some (if dgP t e a then 1 else 0, w) := by
  obtain ⟨h1, h2, h3, h4, h5⟩ := h
  unfold P_X11_isDigit
  rw [h1, h2]
  by_cases c : a < e
  · have ea : atP t e a = t a := if_pos c
    rw [if_neg (nI_ge c (by omega)), gd_t (inB_n (by omega) (by omega)), nI_clamp (by omega), h5 a c, bnd_r (v_X11_in F w (t a) 48 57), lt_v]
    unfold dgP
    rw [ea]
    by_cases c1 : t a < 48
    · rw [if_pos c1, if_pos (show (0 : Int32) = 0 from rfl), if_neg (show ¬ (¬ t a < 48 ∧ ¬ 57 < t a) from fun q => q.1 c1)]; rfl
    · by_cases c2 : 57 < t a
      · rw [if_neg c1, if_pos c2, if_pos (show (0 : Int32) = 0 from rfl), if_neg (show ¬ (¬ t a < 48 ∧ ¬ 57 < t a) from fun q => q.2 c2)]; rfl
      · rw [if_neg c1, if_neg c2, if_neg (show ¬ (1 : Int32) = 0 from by decide), if_pos (show ¬ t a < 48 ∧ ¬ 57 < t a from ⟨c1, c2⟩)]; rfl
  · rw [if_pos (nI_le (by omega) (by omega)), if_neg (fun q => c (dgP_lt q))]
def nmP (t : Nat → Int32) (e d p : Nat) : Int32 := if dgP t e p then valP t e d p 0 else -1
theorem v_X11_number {F : Nat} (hF : 100 ≤ F) {w : Wd} {t : Nat → Int32} {e a : Nat} (h : RdM w t e a) (d : Nat) (h0 : 1 ≤ d) (hd : d ≤ 3) : ∃ w2, P_X11_number F w (nI d) = some (nmP t e d a, w2) ∧ Fm Rd w w2 ∧ RdM w2 t e (a + cntP t e d a) := by
  unfold P_X11_number nmP
  rw [bnd_r (v_X11_isDigit F h)]
  by_cases c : dgP t e a
  · rw [if_pos c, if_neg (by decide), if_pos c]
    have key : ∀ m j, j + m = d → ∀ f, m < f → ∀ u x b, Fm Rd w u → RdM u t e b → ∃ w2, L_X11_number_13 F (nI d) (fun w x5 => some (x5, w)) f u x (nI j) = some (valP t e m b x, w2) ∧ Fm Rd w w2 ∧ RdM w2 t e (b + cntP t e m b) := by
      intro m
      induction m with
      | zero =>
        intro j hj f hf u x b g1 g2
        obtain ⟨f, rfl⟩ : ∃ q, f = q + 1 := ⟨f - 1, by omega⟩
        obtain rfl : j = d := by omega
        rw [L_X11_number_13, if_pos (Int32.le_refl _)]
        exact ⟨u, rfl, g1, g2⟩
      | succ m ih =>
        intro j hj f hf u x b g1 g2
        obtain ⟨f, rfl⟩ : ∃ q, f = q + 1 := ⟨f - 1, by omega⟩
        rw [L_X11_number_13, if_neg (nI_ge (by omega) (by omega)), bnd_r (v_X11_isDigit F g2), valP, cntP]
        by_cases c : dgP t e b
        · have hb := dgP_lt c
          have he := g2.2.2.1
          rw [if_pos c, if_neg (by decide), g2.1, gd_t (inB_n (by omega) (by omega)), lt_v, lt_v, lt_v, nI_clamp (by omega), nI_1, nI_1, if_pos c, if_pos c, g2.2.2.2.2 b hb, show atP t e b = t b from if_pos hb, Int32.mul_comm 10 x]
          have := ih (j + 1) (by omega) f (by omega) _ (x * 10 + t b - 48) (b + 1) (g1.sI ⟨rfl, rfl⟩) (RdM_at g2 (b + 1) hb)
          rw [show b + (cntP t e m (b + 1) + 1) = b + 1 + cntP t e m (b + 1) from by omega]
          exact this
        · rw [if_neg c, if_pos rfl, if_neg c, if_neg c]
          exact ⟨u, rfl, g1, g2⟩
    exact key d 0 (by omega) F (by omega) w 0 a Fm.rfl' h
  · obtain ⟨d, rfl⟩ : ∃ q, d = q + 1 := ⟨d - 1, by omega⟩
    rw [if_neg c, if_pos rfl, if_neg c, cntP, if_neg c]
    exact ⟨w, rfl, Fm.rfl', h⟩
theorem v_X11_isNext (F : Nat) {w : Wd} {t : Nat → Int32} {e a : Nat} (h : RdM w t e a) (x : Int32) (hx : ¬ (-1 : Int32) = x) : ∃ w2, P_X11_isNext F w x = some (if atP t e a = x then 1 else 0, w2) ∧ Fm Rd w w2 ∧ RdM w2 t e (a + if atP t e a = x then 1 else 0) := by
  obtain ⟨h1, h2, h3, h4, h5⟩ := id h
  unfold P_X11_isNext
  rw [h1, h2]
  by_cases c : a < e
  · have ea : atP t e a = t a := if_pos c
    rw [if_neg (nI_ge c (by omega)), gd_t (inB_n (by omega) (by omega)), nI_clamp (by omega), h5 a c, ea]
    by_cases d : t a = x
    · rw [if_pos d, if_pos d, lt_v, bnd_r (v_X11_flag F w 1), lt_v, if_neg (show ¬ (1 : Int32) = 0 from by decide), nI_1]
      exact ⟨_, rfl, Fm.rfl'.sI ⟨rfl, rfl⟩, RdM_at h (a + 1) c⟩
    · rw [if_neg d, if_neg d, lt_v, bnd_r (v_X11_flag F w 0), lt_v, if_pos rfl, add0]
      exact ⟨_, rfl, Fm.rfl'.sI ⟨rfl, rfl⟩, RdM_at h a h4⟩
  · have ea : atP t e a = -1 := if_neg c
    rw [if_pos (nI_le (by omega) (by omega)), ea, if_neg hx]
    unfold K_X11_isNext_28 K_X11_isNext_29
    rw [bnd_r (v_X11_flag F w 0), if_pos rfl, lt_v, h1, add0, if_neg hx]
    exact ⟨_, rfl, Fm.rfl'.sI ⟨rfl, rfl⟩, RdM_at h a h4⟩
def chS (a k : Nat) : Int32 := i2cI (strB a k &&& 255)
theorem chS_ok : ∀ a, a < 6 → strL a ≤ 9 ∧ ∀ k, k < strL a → isChr (chS a k) = true ∧ ¬ chS a k = -1 := by decide +kernel
theorem v_J0_length (F : Nat) (w : Wd) (a : Nat) (h : a < 6) : P_J0_length_8abf5 F w a = some (nI (strL a), w) := by
  have : ∀ a, a < 6 → ishrI (nI (strL a)) 0 = nI (strL a) := by decide +kernel
  show some (ishrI (nI (strL a)) 0, w) = _
  rw [this a h]
theorem v_J0_charAt (F : Nat) (w : Wd) (a k : Nat) (h : a < 6) (hk : k < strL a) : P_J0_charAt_5068e F w a (nI k) = some (chS a k, w) := by
  have ho := chS_ok a h
  have hc := (ho.2 k hk).1
  have h2 : P_J0_checkIndex_df160 F w (nI k) (nI (strL a)) = some w := by
    unfold P_J0_checkIndex_df160 P_J3_checkIndex_8e157
    rw [if_neg (nI_pos (by omega)), if_pos (nI_lt hk (by omega))]; rfl
  have h3 : P_J1_charAt_3b067 F w a (nI k) = some (chS a k, w) := by
    unfold P_J1_charAt_3b067
    rw [bnv_r h2, gd_t (inB_n hk (by omega)), nI_clamp (by omega)]; exact gd_t hc
  show bnd (P_J1_charAt_3b067 F w a (nI k)) (fun x9 w8 => gd (isChr x9) (some (x9, w8))) = _
  rw [bnd_r h3, gd_t hc]
def amP (ch : Nat → Int32) : Nat → Nat → Int32 → Int32
  | 0, _, _ => -1
  | m + 1, j, x => if ch j = x then nI j else amP ch m (j + 1) x
def amS (a : Nat) (x : Int32) : Int32 := amP (chS a) (strL a) 0 x
theorem amP_none (ch : Nat → Int32) (x : Int32) : ∀ m j, (∀ k, j ≤ k → k < j + m → ¬ ch k = x) → amP ch m j x = -1 := by
  intro m
  induction m with
  | zero => intro j h; rfl
  | succ m ih => intro j h; rw [amP, if_neg (h j (by omega) (by omega))]; exact ih (j + 1) (fun k h1 h2 => h k (by omega) (by omega))
theorem v_X11_among {F : Nat} (hF : 100 ≤ F) {w : Wd} {t : Nat → Int32} {e p : Nat} (h : RdM w t e p) (a : Nat) (ha : a < 6) : P_X11_among F w a = some (amS a (atP t e p), w) := by
  obtain ⟨h1, h2, h3, h4, h5⟩ := h
  have ho := chS_ok a ha
  unfold P_X11_among amS
  have key : ∀ m j, j + m = strL a → ∀ f, m < f → L_X11_among_2 F a (fun w  => some ((-1), w)) f w (nI j) = some (amP (chS a) m j (atP t e p), w) := by
    intro m
    induction m with
    | zero =>
      intro j hj f hf
      obtain ⟨f, rfl⟩ : ∃ q, f = q + 1 := ⟨f - 1, by omega⟩
      rw [L_X11_among_2, bnd_r (v_J0_length F w a ha), if_pos (nI_le (by omega) (by omega))]; rfl
    | succ m ih =>
      intro j hj f hf
      obtain ⟨f, rfl⟩ : ∃ q, f = q + 1 := ⟨f - 1, by omega⟩
      rw [L_X11_among_2, bnd_r (v_J0_length F w a ha), if_neg (nI_ge (by omega) (by omega)), h1, h2]
      by_cases c : p < e
      · have ea : atP t e p = t p := if_pos c
        rw [if_neg (nI_ge c (by omega)), bnd_r (v_J0_charAt F w a j ha (by omega)), h1, gd_t (inB_n (by omega) (by omega)), nI_clamp (by omega), h5 p c, ea, amP]
        by_cases d : chS a j = t p
        · rw [if_pos d, if_pos d]
        · rw [if_neg d, if_neg d, lt_v, nI_1, ← ea]
          exact ih (j + 1) (by omega) f (by omega)
      · have ea : atP t e p = -1 := if_neg c
        rw [if_pos (nI_le (by omega) (by omega)), ea, amP_none (chS a) (-1) (m + 1) j (fun k _ h2 => (ho.2 k (by omega)).2)]
  exact key (strL a) 0 (by omega) F (by omega)
theorem amP_sgn (ch : Nat → Int32) (x : Int32) : ∀ m j, j + m < 2 ^ 31 → amP ch m j x = -1 ∨ ∃ k, j ≤ k ∧ k < j + m ∧ ch k = x ∧ amP ch m j x = nI k := by
  intro m
  induction m with
  | zero => intro j _; exact .inl rfl
  | succ m ih =>
    intro j hj
    rw [amP]
    by_cases c : ch j = x
    · rw [if_pos c]; exact .inr ⟨j, by omega, by omega, c, rfl⟩
    · rw [if_neg c]
      rcases ih (j + 1) (by omega) with q | ⟨k, a1, a2, a3, a4⟩
      · exact .inl q
      · exact .inr ⟨k, by omega, by omega, a3, a4⟩
theorem v_X11_takesOf {F : Nat} (hF : 100 ≤ F) {w : Wd} {t : Nat → Int32} {e p : Nat} (h : RdM w t e p) (a : Nat) (ha : a < 6) : ∃ w2, P_X11_takesOf F w a = some (amS a (atP t e p), w2) ∧ Fm Rd w w2 ∧ RdM w2 t e (p + if amS a (atP t e p) < 0 then 0 else 1) := by
  have ho := chS_ok a ha
  unfold P_X11_takesOf
  rw [bnd_r (v_X11_among hF h a ha), lt_v, h.1]
  rcases amP_sgn (chS a) (atP t e p) (strL a) 0 (by omega) with q | ⟨k, a1, a2, a3, a4⟩
  · have hq : amS a (atP t e p) = -1 := q
    rw [hq, if_pos (by decide), bnd_r (v_X11_flag F w 0), lt_v, if_pos rfl, add0, if_pos (by decide)]
    exact ⟨_, rfl, Fm.rfl'.sI ⟨rfl, rfl⟩, RdM_at h p h.2.2.2.1⟩
  · have hq : amS a (atP t e p) = nI k := a4
    have hp : p < e := by
      by_cases c : p < e
      · exact c
      · have : atP t e p = -1 := if_neg c
        exact absurd (a3.trans this) (ho.2 k (by omega)).2
    rw [hq, if_neg (nI_pos (by omega)), bnd_r (v_X11_flag F w 1), lt_v, if_neg (by decide), nI_1, if_neg (nI_pos (by omega))]
    exact ⟨_, rfl, Fm.rfl'.sI ⟨rfl, rfl⟩, RdM_at h (p + 1) hp⟩
def Bg (a k : Nat) : Prop := a = 88 ∧ 14 ≤ k ∧ k ≤ 17
theorem minI_n {a b : Nat} (ha : a < 2 ^ 31) (hb : b < 2 ^ 31) : minI (nI a) (nI b) = nI (min a b) := by
  unfold minI
  by_cases c : b < a
  · rw [if_pos (nI_lt c ha), Nat.min_eq_right (by omega)]
  · rw [if_neg (nI_nlt (by omega) hb), Nat.min_eq_left (by omega)]
theorem v_X11_begins (F : Nat) {w : Wd} {t : Nat → Int32} {n : Nat} (h : TxM w t n) (most : Nat) (hm : most ≤ 80) : ∃ w2, P_X11_begins F w (nI most) = some (nI n, w2) ∧ Fm Bg w w2 ∧ RdM w2 t (min n most) 0 ∧ gI w2 88 14 = 0 ∧ gI w2 88 17 = 0 := by
  obtain ⟨h1, h2, h3⟩ := h
  unfold P_X11_begins
  rw [lt_v, lt_v, lt_v, lt_v, lt_v, h1, minI_n (by omega) (by omega)]
  refine ⟨_, rfl, (((Fm.rfl'.sI ⟨rfl, by decide, by decide⟩).sI ⟨rfl, by decide, by decide⟩).sI ⟨rfl, by decide, by decide⟩).sI ⟨rfl, by decide, by decide⟩, ⟨?_, gIs, by omega, by omega, fun k hk => ?_⟩, ?_, ?_⟩
  · rw [gIk (by decide), gIk (by decide), gIs]; rfl
  · rw [gIa (by decide), gIa (by decide), gIa (by decide), gIa (by decide)]; exact h3 k (by omega)
  · rw [gIk (by decide), gIk (by decide), gIk (by decide), gIs]
  · rw [gIk (by decide), gIs]
/-- what a reading answers -/
def ftP (n most a : Nat) (is : Prop) [Decidable is] : Int32 := if is ∧ a = min n most then (if most < n then -1 - nI most else 0) else -1 - nI a
theorem v_X11_faultOf (F : Nat) {w : Wd} {t : Nat → Int32} {n most a : Nat} (h : RdM w t (min n most) a) (hn : n ≤ 80) (hm : most ≤ 80) (is : Prop) [Decidable is] : P_X11_faultOf F w (nI n) (nI most) (if is then 1 else 0) = some (ftP n most a is, w) := by
  obtain ⟨h1, h2, h3, h4, h5⟩ := h
  unfold P_X11_faultOf ftP
  rw [lt_v, h1, h2]
  have hK : ∀ y x : Int32, K_X11_faultOf_44 F (nI n) (nI most) y w x = some (if x = 0 then -1 - nI a else 0, w) := fun y x => by
    unfold K_X11_faultOf_44; rw [h1, lt_v]
  rw [hK]
  have hx : (if (if is then (1 : Int32) else 0) = 0 then (0 : Int32) else if nI a = nI (min n most) then 1 else 0) = if is ∧ a = min n most then 1 else 0 := by
    by_cases c : is
    · rw [if_pos c, if_neg (show ¬ (1 : Int32) = 0 from by decide)]
      by_cases d : a = min n most
      · rw [if_pos (show nI a = nI (min n most) from by rw [← d]), if_pos (show is ∧ a = min n most from ⟨c, d⟩)]
      · rw [if_neg (show ¬ nI a = nI (min n most) from fun q => d ((nI_eq (by omega) (by omega)).mp q)), if_neg (show ¬ (is ∧ a = min n most) from fun q => d q.2)]
    · rw [if_neg c, if_pos rfl, if_neg (show ¬ (is ∧ a = min n most) from fun q => c q.1)]
  rw [hx]
  by_cases c : is ∧ a = min n most
  · rw [if_pos c, if_pos c, if_neg (show ¬ (1 : Int32) = 0 from by decide)]
    by_cases e : most < n
    · rw [if_neg (nI_ge e (by omega)), if_neg (show ¬ (1 : Int32) = 0 from by decide), if_pos e]
    · rw [if_pos (nI_le (by omega) (by omega)), if_neg e]
  · rw [if_neg c, if_neg c, if_pos rfl]
    by_cases e : most < n
    · rw [if_neg (nI_ge e (by omega)), if_pos rfl]
      by_cases g : a < most
      · rw [if_pos (nI_lt g (by omega))]
      · obtain rfl : a = most := by omega
        rw [if_neg (nI_nlt (by omega) (by omega))]
    · rw [if_pos (nI_le (by omega) (by omega))]
