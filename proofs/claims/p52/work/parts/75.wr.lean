-- ===== a watch: how it is read =====
theorem cnt_dg (t : Nat → Int32) (e : Nat) : ∀ d p q, p ≤ q → q < p + cntP t e d p → dgP t e q := by
  intro d
  induction d with
  | zero => intro p q h1 h2; rw [cntP] at h2; omega
  | succ d ih =>
    intro p q h1 h2
    rw [cntP] at h2
    by_cases c : dgP t e p
    · rw [if_pos c] at h2
      by_cases hq : q = p
      · rw [hq]; exact c
      · exact ih (p + 1) q (by omega) (by omega)
    · rw [if_neg c] at h2; omega
theorem cnt_end (t : Nat → Int32) (e : Nat) : ∀ d p, cntP t e d p = d ∨ ¬ dgP t e (p + cntP t e d p) := by
  intro d
  induction d with
  | zero => intro p; exact .inl rfl
  | succ d ih =>
    intro p
    rw [cntP]
    by_cases c : dgP t e p
    · rw [if_pos c]
      rcases ih (p + 1) with q | q
      · exact .inl (by omega)
      · rw [show p + (cntP t e d (p + 1) + 1) = p + 1 + cntP t e d (p + 1) from by omega]; exact .inr q
    · rw [if_neg c]; exact .inr c
theorem dg_n {t : Nat → Int32} {e p : Nat} (h : dgP t e p) : ∃ c : Nat, 48 ≤ c ∧ c ≤ 57 ∧ atP t e p = nI c := by
  obtain ⟨c, h1, h2, h3⟩ := rng h.1 (Int32.not_lt.mp h.2) (A := 48) (B := 57)
  exact ⟨c, h1, h2, h3⟩
theorem val_n (t : Nat → Int32) (e : Nat) : ∀ m p x, ∃ y : Nat, valP t e m p (nI x) = nI y ∧ y + 1 ≤ (x + 1) * 10 ^ m := by
  intro m
  induction m with
  | zero => intro p x; exact ⟨x, rfl, by omega⟩
  | succ m ih =>
    intro p x
    rw [valP]
    have h10 : 1 ≤ 10 ^ m := Nat.one_le_pow _ _ (by decide)
    by_cases c : dgP t e p
    · rw [if_pos c]
      obtain ⟨d, d1, d2, d3⟩ := dg_n c
      obtain ⟨y, y1, y2⟩ := ih (p + 1) (x * 10 + d - 48)
      refine ⟨y, ?_, ?_⟩
      · rw [d3, show (10 : Int32) = nI 10 from rfl, show (48 : Int32) = nI 48 from rfl, pk_mul, nI_add, pk_sub (by omega)]; exact y1
      · have : (x * 10 + d - 48 + 1) * 10 ^ m ≤ ((x + 1) * 10) * 10 ^ m := Nat.mul_le_mul_right _ (by omega)
        rw [Nat.pow_succ, Nat.mul_comm (10 ^ m) 10, ← Nat.mul_assoc]; omega
    · rw [if_neg c]
      refine ⟨x, rfl, ?_⟩
      have : (x + 1) * 1 ≤ (x + 1) * 10 ^ (m + 1) := Nat.mul_le_mul_left _ (Nat.one_le_pow _ _ (by decide))
      omega
theorem val_nn {t : Nat → Int32} {e d p : Nat} (hd : d ≤ 3) : ∃ y : Nat, valP t e d p 0 = nI y ∧ y < 1000 := by
  obtain ⟨y, y1, y2⟩ := val_n t e d p 0
  have : 10 ^ d ≤ 10 ^ 3 := Nat.pow_le_pow_right (by decide) hd
  exact ⟨y, y1, by omega⟩
theorem sg5 (x : Int32) : (x = 116 ∧ amO 5 x = 0) ∨ (x = 108 ∧ amO 5 x = 1) ∨ (x = 99 ∧ amO 5 x = 2) ∨ (x = 109 ∧ amO 5 x = 3) ∨ ((¬ x = 116 ∧ ¬ x = 108 ∧ ¬ x = 99 ∧ ¬ x = 109) ∧ amO 5 x = -1) := by
  have e : amO 5 x = if (116 : Int32) = x then 0 else if (108 : Int32) = x then 1 else if (99 : Int32) = x then 2 else if (109 : Int32) = x then 3 else -1 := rfl
  rw [e]
  by_cases c1 : (116 : Int32) = x
  · rw [if_pos c1]; exact .inl ⟨c1.symm, rfl⟩
  rw [if_neg c1]
  by_cases c2 : (108 : Int32) = x
  · rw [if_pos c2]; exact .inr (.inl ⟨c2.symm, rfl⟩)
  rw [if_neg c2]
  by_cases c3 : (99 : Int32) = x
  · rw [if_pos c3]; exact .inr (.inr (.inl ⟨c3.symm, rfl⟩))
  rw [if_neg c3]
  by_cases c4 : (109 : Int32) = x
  · rw [if_pos c4]; exact .inr (.inr (.inr (.inl ⟨c4.symm, rfl⟩)))
  rw [if_neg c4]
  exact .inr (.inr (.inr (.inr ⟨⟨fun h => c1 h.symm, fun h => c2 h.symm, fun h => c3 h.symm, fun h => c4 h.symm⟩, rfl⟩)))
def sgP (t : Nat → Int32) (e p : Nat) : Int32 := amO 5 (atP t e p)
def p1P (t : Nat → Int32) (e p : Nat) : Nat := p + if sgP t e p < 0 then 0 else 1
def mS (s : Int32) : Nat := if s < 0 then 3 else if s = 2 then 2 else if s = 3 then 2 else 1
def lS (s : Int32) : Nat := if s = 2 then 2 else 1
def raAt (t : Nat → Int32) (e p : Nat) : Nat := p1P t e p + cntP t e (mS (sgP t e p)) (p1P t e p)
abbrev raOk (t : Nat → Int32) (e p : Nat) : Prop := lS (sgP t e p) ≤ cntP t e (mS (sgP t e p)) (p1P t e p)
def acP (t : Nat → Int32) (e p : Nat) : Int32 × Int32 × Int32 := (sgP t e p, valP t e (if sgP t e p = 2 then 1 else mS (sgP t e p)) (p1P t e p) 0, valP t e 1 (p1P t e p + 1) 0)
def wP (t : Nat → Int32) (e : Nat) : Nat → Nat → Bool × Nat × List Nat
  | 0, p => (false, p, [])
  | m + 1, p => if raOk t e p ∧ atP t e (raAt t e p) = 59 then ((wP t e m (raAt t e p + 1)).1, (wP t e m (raAt t e p + 1)).2.1, p :: (wP t e m (raAt t e p + 1)).2.2) else (decide (raOk t e p), raAt t e p, [p])
theorem sg_lt {t : Nat → Int32} {e p : Nat} (h : ¬ sgP t e p < 0) : p < e := by
  by_cases c : p < e
  · exact c
  · have : atP t e p = -1 := if_neg c
    unfold sgP at h; rw [this] at h; exact absurd (by decide) h
theorem p1_le {t : Nat → Int32} {e p : Nat} (hp : p ≤ e) : p ≤ p1P t e p ∧ p1P t e p ≤ e := by
  unfold p1P
  by_cases c : sgP t e p < 0
  · rw [if_pos c]; omega
  · rw [if_neg c]; have := sg_lt c; omega
theorem ra_le {t : Nat → Int32} {e p : Nat} (hp : p ≤ e) : p ≤ raAt t e p ∧ raAt t e p ≤ e := by
  have h1 := p1_le (t := t) hp
  have h2 := cntP_le t e (mS (sgP t e p)) (p1P t e p) h1.2
  unfold raAt; omega
theorem ra_ok {t : Nat → Int32} {e p : Nat} (hp : p ≤ e) (h : raOk t e p) : p + 1 ≤ raAt t e p := by
  have h1 := p1_le (t := t) hp
  have : 1 ≤ lS (sgP t e p) := by unfold lS; split <;> decide
  unfold raAt; unfold raOk at h; omega
/-- inside an act no end of one stands -/
theorem no59 {t : Nat → Int32} {e p q : Nat} (h1 : p ≤ q) (h2 : q < raAt t e p) : ¬ atP t e q = 59 := by
  by_cases c : q < p1P t e p
  · unfold p1P at c
    by_cases d : sgP t e p < 0
    · rw [if_pos d] at c; omega
    · rw [if_neg d] at c
      obtain rfl : q = p := by omega
      unfold sgP at d
      rcases sg5 (atP t e q) with ⟨x, -⟩ | ⟨x, -⟩ | ⟨x, -⟩ | ⟨x, -⟩ | ⟨-, x⟩
      · rw [x]; decide
      · rw [x]; decide
      · rw [x]; decide
      · rw [x]; decide
      · rw [x] at d; exact absurd (by decide) d
  · obtain ⟨c, c1, c2, c3⟩ := dg_n (cnt_dg t e _ _ q (by omega) h2)
    rw [c3]
    intro h
    have := (nI_eq (a := c) (b := 59) (by omega) (by decide)).mp h
    omega
section FA
variable {F : Nat} {w : Wd} {t : Nat → Int32} {n e : Nat}
theorem at_ne (he : e ≤ n) {p : Nat} (hp : p < e) : atP t n p = atP t e p := by unfold atP; rw [if_pos hp, if_pos (by omega)]
theorem fa_0 (h : TxC w t n) (he : e ≤ n) (K : Wd → Int32 → Int32 → Option (Int32 × Wd)) (f : Nat) (x kind : Int32) (p : Nat) (hp : p < e) : L_X0_faultIn_18 F (nI e) K (f + 1) w x kind (nI p) = (if (if dgP t e p then (1 : Int32) else 0) = 0 then K_X0_faultIn_95 F (nI e) K (L_X0_faultIn_18 F (nI e) K f) w x kind (nI p) (atP t e p) (if kind = 59 then 1 else 0) else (if (if kind = 59 then (1 : Int32) else 0) = 0 then bnd (P_X0_most F w kind) (fun x54 w53 => (if x54 ≤ x then K_X0_faultIn_95 F (nI e) K (L_X0_faultIn_18 F (nI e) K f) w53 x kind (nI p) (atP t e p) (if kind = 59 then 1 else 0) else K_X0_faultIn_67 F (nI e) K (L_X0_faultIn_18 F (nI e) K f) w53 x kind (nI p) (if kind = 59 then 1 else 0))) else K_X0_faultIn_67 F (nI e) K (L_X0_faultIn_18 F (nI e) K f) w x kind (nI p) (if kind = 59 then 1 else 0))) := by
  have hn := h.2.1
  have hd : (if dgP t n p then (1 : Int32) else 0) = if dgP t e p then 1 else 0 := by unfold dgP; rw [at_ne he hp]
  rw [L_X0_faultIn_18, if_neg (nI_ge hp (by omega)), bnd_r (v_X8_at F h p (by omega)), lt_v, bnd_r (v_X8_digitAt F h p (by omega)), hd, at_ne he hp]
theorem fa_1 (h : TxC w t n) (he : e ≤ n) (K : Wd → Int32 → Int32 → Option (Int32 × Wd)) (f : Nat) (x : Int32) (p : Nat) (hp : p < e) (hd : dgP t e p) : L_X0_faultIn_18 F (nI e) K (f + 1) w x 59 (nI p) = L_X0_faultIn_18 F (nI e) K f w 1 48 (nI (p + 1)) := by
  rw [fa_0 h he K f x 59 p hp, if_pos hd, if_neg (show ¬ (1 : Int32) = 0 from by decide), if_pos (show (59 : Int32) = 59 from rfl), if_neg (show ¬ (1 : Int32) = 0 from by decide)]
  show L_X0_faultIn_18 F (nI e) K f w 1 48 (nI p + 1) = _
  rw [nI_1]
theorem fa_2 (h : TxC w t n) (he : e ≤ n) (K : Wd → Int32 → Int32 → Option (Int32 × Wd)) (f : Nat) (x c : Int32) (p : Nat) (hp : p < e) (hc : c = 116 ∨ c = 108 ∨ c = 99 ∨ c = 109) (ha : atP t e p = c) : L_X0_faultIn_18 F (nI e) K (f + 1) w x 59 (nI p) = L_X0_faultIn_18 F (nI e) K f w 0 c (nI (p + 1)) := by
  have hd : ¬ dgP t e p := by
    unfold dgP; rw [ha]
    rcases hc with rfl | rfl | rfl | rfl <;> decide
  rw [fa_0 h he K f x 59 p hp, if_neg hd, if_pos (show (0 : Int32) = 0 from rfl), ha]
  rcases hc with rfl | rfl | rfl | rfl
  all_goals
    show L_X0_faultIn_18 F (nI e) K f w 0 _ (nI p + 1) = _
    rw [nI_1]
theorem fa_3 (h : TxC w t n) (he : e ≤ n) (K : Wd → Int32 → Int32 → Option (Int32 × Wd)) (f : Nat) (x : Int32) (p : Nat) (hp : p < e) (hd : ¬ dgP t e p) (hc : ¬ atP t e p = 116 ∧ ¬ atP t e p = 108 ∧ ¬ atP t e p = 99 ∧ ¬ atP t e p = 109) : L_X0_faultIn_18 F (nI e) K (f + 1) w x 59 (nI p) = some (nI p, w) := by
  rw [fa_0 h he K f x 59 p hp, if_neg hd, if_pos (show (0 : Int32) = 0 from rfl), if_pos (show (59 : Int32) = 59 from rfl)]
  unfold K_X0_faultIn_95 K_X0_faultIn_136
  rw [if_neg (show ¬ (1 : Int32) = 0 from by decide), if_neg hc.1, if_neg hc.2.1, if_neg hc.2.2.1, if_neg hc.2.2.2, if_neg (show ¬ (1 : Int32) = 0 from by decide)]
theorem fa_4 (h : TxC w t n) (he : e ≤ n) (K : Wd → Int32 → Int32 → Option (Int32 × Wd)) (f d M : Nat) (kind : Int32) (hk : ¬ kind = 59) (hM : P_X0_most F w kind = some (nI M, w)) (p : Nat) (hp : p < e) (hd : dgP t e p) (h1 : d < M) (h2 : M < 100) : L_X0_faultIn_18 F (nI e) K (f + 1) w (nI d) kind (nI p) = L_X0_faultIn_18 F (nI e) K f w (nI (d + 1)) kind (nI (p + 1)) := by
  rw [fa_0 h he K f _ kind p hp, if_pos hd, if_neg (show ¬ (1 : Int32) = 0 from by decide), if_neg hk, if_pos (show (0 : Int32) = 0 from rfl), bnd_r hM, if_neg (nI_ge h1 (by omega))]
  show L_X0_faultIn_18 F (nI e) K f w (nI d + 1) kind (nI p + 1) = _
  rw [nI_1, nI_1]
theorem fa_5 (h : TxC w t n) (he : e ≤ n) (K : Wd → Int32 → Int32 → Option (Int32 × Wd)) (f d M L : Nat) (kind : Int32) (hk : ¬ kind = 59) (hM : P_X0_most F w kind = some (nI M, w)) (hL : P_X0_least F w kind = some (nI L, w)) (p : Nat) (hp : p < e) (hd : ¬ dgP t e p ∨ M ≤ d) (h2 : M < 100) (h3 : d < 100) (h4 : L < 100) : L_X0_faultIn_18 F (nI e) K (f + 1) w (nI d) kind (nI p) = if L ≤ d ∧ atP t e p = 59 then L_X0_faultIn_18 F (nI e) K f w (nI d) 59 (nI (p + 1)) else some (nI p, w) := by
  have g : L_X0_faultIn_18 F (nI e) K (f + 1) w (nI d) kind (nI p) = K_X0_faultIn_95 F (nI e) K (L_X0_faultIn_18 F (nI e) K f) w (nI d) kind (nI p) (atP t e p) 0 := by
    rw [fa_0 h he K f _ kind p hp]
    by_cases c : dgP t e p
    · rw [if_pos c, if_neg (show ¬ (1 : Int32) = 0 from by decide), if_neg hk, if_pos (show (0 : Int32) = 0 from rfl), bnd_r hM, if_pos (nI_le (by rcases hd with q | q; exact absurd c q; exact q) (by omega))]
    · rw [if_neg c, if_pos (show (0 : Int32) = 0 from rfl), if_neg hk]
  rw [g]
  unfold K_X0_faultIn_95 K_X0_faultIn_136
  rw [if_pos (show (0 : Int32) = 0 from rfl), if_pos (show (0 : Int32) = 0 from rfl)]
  by_cases c : atP t e p = 59
  · rw [if_pos c, bnd_r hL]
    by_cases c2 : L ≤ d
    · rw [if_neg (nI_nlt c2 (by omega)), if_pos ⟨c2, c⟩]
      show L_X0_faultIn_18 F (nI e) K f w (nI d) 59 (nI p + 1) = _
      rw [nI_1]
    · rw [if_pos (nI_lt (by omega) (by omega)), if_neg (fun q => c2 q.1)]
  · rw [if_neg c, if_neg (fun q => c q.2)]
theorem fa_dig (h : TxC w t n) (he : e ≤ n) (K : Wd → Int32 → Int32 → Option (Int32 × Wd)) (M : Nat) (kind : Int32) (hk : ¬ kind = 59) (hM : P_X0_most F w kind = some (nI M, w)) (h2 : M < 100) : ∀ m d p f, d + m = M → L_X0_faultIn_18 F (nI e) K (f + cntP t e m p) w (nI d) kind (nI p) = L_X0_faultIn_18 F (nI e) K f w (nI (d + cntP t e m p)) kind (nI (p + cntP t e m p)) := by
  intro m
  induction m with
  | zero => intro d p f _; rfl
  | succ m ih =>
    intro d p f hd
    rw [cntP]
    by_cases c : dgP t e p
    · rw [if_pos c, show f + (cntP t e m (p + 1) + 1) = f + cntP t e m (p + 1) + 1 from by omega, fa_4 h he K _ d M kind hk hM p (dgP_lt c) c (by omega) h2, ih (d + 1) (p + 1) f (by omega), show d + 1 + cntP t e m (p + 1) = d + (cntP t e m (p + 1) + 1) from by omega, show p + 1 + cntP t e m (p + 1) = p + (cntP t e m (p + 1) + 1) from by omega]
    · rw [if_neg c]; rfl
/-- the fault the class finds; -1: none -/
def cfP (n e a : Nat) (is : Bool) : Int32 := if is = true ∧ a = e then (if 60 < n then 60 else -1) else nI a
end FA
