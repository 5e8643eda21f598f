-- ===== the text =====
def TxC (w : Wd) (t : Nat → Int32) (n : Nat) : Prop := gI w 1 1 = nI n ∧ n ≤ 80 ∧ ∀ k, k < n → gI w 2 k = t k
def atP (t : Nat → Int32) (e p : Nat) : Int32 := if p < e then t p else -1
abbrev dgP (t : Nat → Int32) (e p : Nat) : Prop := ¬ atP t e p < 48 ∧ ¬ 57 < atP t e p
theorem dgP_lt {t : Nat → Int32} {e p : Nat} (h : dgP t e p) : p < e := by
  by_cases c : p < e
  · exact c
  · have := h.1; unfold atP at this; rw [if_neg c] at this; exact absurd (by decide) this
def valP (t : Nat → Int32) (e : Nat) : Nat → Nat → Int32 → Int32
  | 0, _, v => v
  | d + 1, p, v => if dgP t e p then valP t e d (p + 1) (v * 10 + atP t e p - 48) else v
def cntP (t : Nat → Int32) (e : Nat) : Nat → Nat → Nat
  | 0, _ => 0
  | d + 1, p => if dgP t e p then cntP t e d (p + 1) + 1 else 0
theorem cntP_le (t : Nat → Int32) (e : Nat) : ∀ d p, p ≤ e → p + cntP t e d p ≤ e ∧ cntP t e d p ≤ d := by
  intro d
  induction d with
  | zero => intro p h; exact ⟨h, Nat.le_refl _⟩
  | succ d ih =>
    intro p h
    rw [cntP]
    split
    · rename_i c
      have := ih (p + 1) (dgP_lt c)
      omega
    · omega
theorem v_X8_at (F : Nat) {w : Wd} {t : Nat → Int32} {n : Nat} (h : TxC w t n) (p : Nat) (hp : p < 1000) : P_X8_at F w (nI p) = some (atP t n p, w) := by
  unfold P_X8_at atP
  rw [if_neg (nI_pos (by omega)), h.1]
  by_cases c : p < n
  · have := h.2.1
    rw [if_neg (nI_ge c (by omega)), if_neg (show ¬ (80 : Int32) ≤ nI p from nI_ge (a := p) (b := 80) (by omega) (by decide)), gd_t (inB_n (by omega) (by omega)), nI_clamp (by omega), h.2.2 p c, if_pos c]
  · rw [if_pos (nI_le (by omega) (by omega)), if_neg c]
theorem v_X8_digitAt (F : Nat) {w : Wd} {t : Nat → Int32} {n : Nat} (h : TxC w t n) (p : Nat) (hp : p < 1000) : P_X8_digitAt F w (nI p) = some (if dgP t n p then 1 else 0, w) := by
  unfold P_X8_digitAt
  rw [bnd_r (v_X8_at F h p hp), lt_v]
  by_cases c : atP t n p < 48
  · rw [if_pos c, if_neg (fun q => q.1 c)]; rfl
  · by_cases d : 57 < atP t n p
    · rw [if_neg c, if_pos d, if_neg (fun q => q.2 d)]; rfl
    · rw [if_neg c, if_neg d, if_pos ⟨c, d⟩]; rfl
theorem v_X8_number {F : Nat} (hF : 100 ≤ F) {w : Wd} {t : Nat → Int32} {n : Nat} (h : TxC w t n) (p d : Nat) (hp : p < 900) (hd : d ≤ 3) : P_X8_number F w (nI p) (nI d) = some (valP t n d p 0, w) := by
  unfold P_X8_number
  have key : ∀ m j, j + m = d → ∀ f, m < f → ∀ x, L_X8_number_5 F (nI p) (nI d) (fun w x5 => some (x5, w)) f w x (nI j) = some (valP t n m (p + j) x, w) := by
    intro m
    induction m with
    | zero =>
      intro j hj f hf x
      obtain ⟨f, rfl⟩ : ∃ q, f = q + 1 := ⟨f - 1, by omega⟩
      obtain rfl : j = d := by omega
      rw [L_X8_number_5, if_pos (Int32.le_refl _)]; rfl
    | succ m ih =>
      intro j hj f hf x
      obtain ⟨f, rfl⟩ : ∃ q, f = q + 1 := ⟨f - 1, by omega⟩
      rw [L_X8_number_5, if_neg (nI_ge (by omega) (by omega)), nI_add, bnd_r (v_X8_digitAt F h (p + j) (by omega)), valP]
      by_cases c : dgP t n (p + j)
      · rw [if_pos c, if_neg (by decide), bnd_r (v_X8_at F h (p + j) (by omega)), lt_v, lt_v, nI_1, if_pos c]
        exact ih (j + 1) (by omega) f (by omega) _
      · rw [if_neg c, if_pos rfl, if_neg c]
  exact key d 0 (by omega) F (by omega) 0
def chS (a k : Nat) : Int32 := i2cI (strB a k &&& 255)
theorem chS_ok : ∀ a, a < 6 → strL a ≤ 9 ∧ ∀ k, k < strL a → isChr (chS a k) = true ∧ ¬ chS a k = -1 := by decide +kernel
theorem v_J0_length (F : Nat) (w : Wd) (a : Nat) (h : a < 6) : P_J0_length_8abf5 F w a = some (nI (strL a), w) := by
  have : ∀ a, a < 6 → ishrI (nI (strL a)) 0 = nI (strL a) := by decide +kernel
  show some (ishrI (nI (strL a)) 0, w) = _
  rw [this a h]
def amP (ch : Nat → Int32) : Nat → Nat → Int32 → Int32
  | 0, _, _ => -1
  | m + 1, j, x => if ch j = x then nI j else amP ch m (j + 1) x
def amS (a : Nat) (x : Int32) : Int32 := amP (chS a) (strL a) 0 x
/-- the signs of a rank, by their order -/
def amO (a : Nat) (x : Int32) : Int32 := match a with
  | 2 => if (60 : Int32) = x then 0 else if (62 : Int32) = x then 1 else if (61 : Int32) = x then 2 else -1
  | 3 => if (43 : Int32) = x then 0 else if (45 : Int32) = x then 1 else -1
  | 4 => if (42 : Int32) = x then 0 else if (47 : Int32) = x then 1 else -1
  | 5 => if (116 : Int32) = x then 0 else if (108 : Int32) = x then 1 else if (99 : Int32) = x then 2 else if (109 : Int32) = x then 3 else -1
  | _ => -1
theorem amO_m1 (a : Nat) : amO a (-1) < 0 := by
  unfold amO
  split <;> decide
theorem amP_none (ch : Nat → Int32) (x : Int32) : ∀ m j, (∀ k, j ≤ k → k < j + m → ¬ ch k = x) → amP ch m j x = -1 := by
  intro m
  induction m with
  | zero => intro j h; rfl
  | succ m ih => intro j h; rw [amP, if_neg (h j (by omega) (by omega))]; exact ih (j + 1) (fun k h1 h2 => h k (by omega) (by omega))
theorem amP_sgn (ch : Nat → Int32) (x : Int32) : ∀ m j, j + m < 2 ^ 31 → amP ch m j x = -1 ∨ ∃ k, j ≤ k ∧ k < j + m ∧ ch k = x ∧ amP ch m j x = nI k := by
  intro m
  induction m with
  | zero => intro j _; exact .inl rfl
  | succ m ih =>
    intro j hj
    rw [amP]
    by_cases c : ch j = x
    · rw [if_pos c]; exact .inr ⟨j, by omega, by omega, c, rfl⟩
    · rw [if_neg c]
      rcases ih (j + 1) (by omega) with q | ⟨k, a1, a2, a3, a4⟩
      · exact .inl q
      · exact .inr ⟨k, by omega, by omega, a3, a4⟩
theorem minI_n {a b : Nat} (ha : a < 2 ^ 31) (hb : b < 2 ^ 31) : minI (nI a) (nI b) = nI (min a b) := by
  unfold minI
  by_cases c : b < a
  · rw [if_pos (nI_lt c ha), Nat.min_eq_right (by omega)]
  · rw [if_neg (nI_nlt (by omega) hb), Nat.min_eq_left (by omega)]
/-- what a reading answers -/
def ftP (n most a : Nat) (is : Prop) [Decidable is] : Int32 := if is ∧ a = min n most then (if most < n then -1 - nI most else 0) else -1 - nI a
