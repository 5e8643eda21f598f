-- ===== ringers, town: reading =====
abbrev o1P (t : Nat → Int32) (e p : Nat) : Prop := ¬ atP t e p < 49 ∧ ¬ 57 < atP t e p
def wQ (t : Nat → Int32) (e th : Nat) : Nat → Nat → Bool × Nat × Nat
  | 0, k => (false, 3 * k, k)
  | m + 1, k => if th + k = 8 ∨ ¬ o1P t e (3 * k) then (false, 3 * k, k) else if ¬ dgP t e (3 * k + 1) then (false, 3 * k + 1, k) else if atP t e (3 * k + 2) = 59 then wQ t e th m (k + 1) else (true, 3 * k + 2, k + 1)
theorem o1_n {t : Nat → Int32} {e p : Nat} (h : o1P t e p) : ∃ c : Nat, 49 ≤ c ∧ c ≤ 57 ∧ atP t e p = nI c := by
  obtain ⟨c, h1, h2, h3⟩ := rng h.1 (Int32.not_lt.mp h.2) (A := 49) (B := 57)
  exact ⟨c, h1, h2, h3⟩
theorem o1_dg {t : Nat → Int32} {e p : Nat} (h : o1P t e p) : dgP t e p := by
  obtain ⟨c, h1, h2, h3⟩ := o1_n h
  unfold dgP
  rw [h3]
  exact ⟨nI_nlt (a := c) (b := 48) (by omega) (by omega), nI_nlt (a := 57) (b := c) (by omega) (by omega)⟩
theorem wQ_le (t : Nat → Int32) (e th : Nat) : ∀ m k, 3 * k ≤ e → (wQ t e th m k).2.1 ≤ e ∧ (th + k ≤ 8 → (wQ t e th m k).1 = true → (wQ t e th m k).2.1 = 3 * ((wQ t e th m k).2.2 - 1) + 2 ∧ k + 1 ≤ (wQ t e th m k).2.2 ∧ th + (wQ t e th m k).2.2 ≤ 8) := by
  intro m
  induction m with
  | zero => intro k h; exact ⟨h, fun _ q => absurd (show false = true from q) (by decide)⟩
  | succ m ih =>
    intro k h
    rw [wQ]
    by_cases c1 : th + k = 8 ∨ ¬ o1P t e (3 * k)
    · rw [if_pos c1]; exact ⟨h, fun _ q => absurd (show false = true from q) (by decide)⟩
    rw [if_neg c1]
    have g1 : o1P t e (3 * k) := by
      by_cases z : o1P t e (3 * k)
      · exact z
      · exact absurd (.inr z) c1
    have g0 : ¬ th + k = 8 := fun z => c1 (.inl z)
    have l1 := dgP_lt (o1_dg g1)
    by_cases c2 : dgP t e (3 * k + 1)
    · rw [if_neg (fun z => z c2)]
      have l2 := dgP_lt c2
      by_cases c3 : atP t e (3 * k + 2) = 59
      · rw [if_pos c3]
        have l3 : 3 * k + 2 < e := by
          by_cases z : 3 * k + 2 < e
          · exact z
          · rw [show atP t e (3 * k + 2) = -1 from if_neg z] at c3; exact absurd c3 (by decide)
        have := ih (k + 1) (by omega)
        exact ⟨this.1, fun hk q => by have := this.2 (by omega) q; omega⟩
      · rw [if_neg c3]
        exact ⟨by show 3 * k + 2 ≤ e; omega, fun hk _ => ⟨by show 3 * k + 2 = 3 * (k + 1 - 1) + 2; omega, Nat.le_refl _, by show th + (k + 1) ≤ 8; omega⟩⟩
    · rw [if_pos c2]; exact ⟨by show 3 * k + 1 ≤ e; omega, fun _ q => absurd (show false = true from q) (by decide)⟩
def cfQ (n e a : Nat) (is : Bool) : Int32 := if is = true ∧ a = e then (if 23 < n then 23 else -1) else nI a
section QA
variable {F : Nat} {w : Wd} {t : Nat → Int32} {n e th a : Nat}
abbrev fitP (t : Nat → Int32) (e th p : Nat) : Prop := (p % 3 = 0 ∧ o1P t e p ∧ th + p / 3 < 8) ∨ (p % 3 = 1 ∧ dgP t e p) ∨ (p % 3 = 2 ∧ atP t e p = 59)
theorem fit_0 {t : Nat → Int32} {e th p : Nat} (h : p % 3 = 0) : fitP t e th p ↔ o1P t e p ∧ th + p / 3 < 8 := ⟨fun q => by rcases q with q | q | q; exact q.2; omega; omega, fun q => .inl ⟨h, q⟩⟩
theorem fit_1 {t : Nat → Int32} {e th p : Nat} (h : p % 3 = 1) : fitP t e th p ↔ dgP t e p := ⟨fun q => by rcases q with q | q | q; omega; exact q.2; omega, fun q => .inr (.inl ⟨h, q⟩)⟩
theorem fit_2 {t : Nat → Int32} {e th p : Nat} (h : p % 3 = 2) : fitP t e th p ↔ atP t e p = 59 := ⟨fun q => by rcases q with q | q | q; omega; omega; exact q.2, fun q => .inr (.inr ⟨h, q⟩)⟩
theorem v_X5_fits (hx : TxC w t n) (he : e ≤ n) (ht : gI w a 2 = nI th) (h8 : th ≤ 8) (p : Nat) (hp : p < e) : P_X5_fits F w a (nI p) (atP t e p) = some (if fitP t e th p then 1 else 0, w) := by
  have hn := hx.2.1
  have r3 : iremI (nI p) 3 = nI (p % 3) := pk_rem (a := p) (d := 3) (by omega) (by decide) (by decide)
  have d3 : nI p / 3 = nI (p / 3) := pk_div (a := p) (d := 3) (by omega) (by decide) (by decide)
  unfold P_X5_fits
  rw [r3, d3, ht, nI_add]
  by_cases c0 : p % 3 = 0
  · have f := fit_0 (t := t) (e := e) (th := th) c0
    rw [show nI (p % 3) = 0 from by rw [c0]; rfl, if_pos (show (0 : Int32) = 0 from rfl)]
    by_cases b1 : atP t e p < 49
    · rw [if_pos b1, if_neg (fun q => (f.mp q).1.1 b1)]
    rw [if_neg b1]
    by_cases b2 : 57 < atP t e p
    · rw [if_pos b2, if_neg (fun q => (f.mp q).1.2 b2)]
    rw [if_neg b2, lt_v, gd_t isZO_i]
    by_cases b3 : th + p / 3 < 8
    · rw [if_neg (n8gt b3), if_pos (f.mpr ⟨⟨b1, b2⟩, b3⟩)]
    · rw [if_pos (n8le (by omega) (by omega)), if_neg (fun q => b3 (f.mp q).2)]
  · by_cases c1 : p % 3 = 1
    · have f := fit_1 (t := t) (e := e) (th := th) c1
      rw [show nI (p % 3) = 1 from by rw [c1]; rfl, if_neg (show ¬ (1 : Int32) = 0 from by decide), if_pos (show (1 : Int32) = 1 from rfl), lt_v]
      by_cases b1 : atP t e p < 48
      · rw [if_pos b1, if_neg (fun q => (f.mp q).1 b1)]; rfl
      · by_cases b2 : 57 < atP t e p
        · rw [if_neg b1, if_pos b2, if_neg (fun q => (f.mp q).2 b2)]; rfl
        · rw [if_neg b1, if_neg b2, if_pos (f.mpr ⟨b1, b2⟩)]; rfl
    · have c2 : p % 3 = 2 := by omega
      have f := fit_2 (t := t) (e := e) (th := th) c2
      rw [show nI (p % 3) = 2 from by rw [c2]; rfl, if_neg (show ¬ (2 : Int32) = 0 from by decide), if_neg (show ¬ (2 : Int32) = 1 from by decide), lt_v, gd_t isZO_j]
      by_cases b : atP t e p = 59
      · rw [if_pos b, if_pos (f.mpr b)]
      · rw [if_neg b, if_neg (fun q => b (f.mp q))]
theorem fq_step (hx : TxC w t n) (he : e ≤ n) (ht : gI w a 2 = nI th) (h8 : th ≤ 8) (K : Wd → Option (Int32 × Wd)) (f p : Nat) (hp : p < e) : L_X5_faultIn_12 F a (nI e) K (f + 1) w (nI p) = if fitP t e th p then L_X5_faultIn_12 F a (nI e) K f w (nI (p + 1)) else some (nI p, w) := by
  have hn := hx.2.1
  rw [L_X5_faultIn_12, if_neg (nI_ge hp (by omega)), bnd_r (v_X8_at F hx p (by omega)), at_ne he hp, bnd_r (v_X5_fits (F := F) hx he ht h8 p hp)]
  by_cases c : fitP t e th p
  · rw [if_pos c, if_pos c, if_neg (show ¬ (1 : Int32) = 0 from by decide), lt_v, nI_1]
  · rw [if_neg c, if_neg c, if_pos rfl]
def fqK (F : Nat) (x2 : Int32) (a1 : Nat) : Wd → Option (Int32 × Wd) := (fun w  => (if (gI w 1 1) ≤ 23 then (if x2 = 0 then K_X5_faultIn_61 F a1  w  else lt (if (iremI x2 3) = 2 then (-1) else x2 : Int32) (fun x16 => some (x16, w))) else some (23, w)))
theorem fqK_e (hx : TxC w t n) (h0 : 0 < min n 23) : fqK F (nI (min n 23)) a w = some (cfQ n (min n 23) (min n 23) (decide (min n 23 % 3 = 2)), w) := by
  have hn := hx.2.1
  have r3 : iremI (nI (min n 23)) 3 = nI (min n 23 % 3) := pk_rem (a := min n 23) (d := 3) (by omega) (by decide) (by decide)
  unfold fqK cfQ
  rw [hx.1, r3]
  by_cases c : n ≤ 23
  · rw [if_pos (show nI n ≤ 23 from nI_le (a := n) (b := 23) c (by decide)), if_neg (nI_ne0 h0 (by omega)), lt_v]
    by_cases d : min n 23 % 3 = 2
    · rw [d, if_pos (show nI 2 = 2 from rfl), if_pos (by simp), if_neg (by omega)]
    · rw [if_neg (show ¬ nI (min n 23 % 3) = 2 from fun q => d ((nI_eq (a := min n 23 % 3) (b := 2) (by omega) (by decide)).mp q)), decide_eq_false d, if_neg (fun q => absurd q.1 (by decide))]
  · have e23 : min n 23 = 23 := by omega
    rw [if_neg (show ¬ nI n ≤ 23 from nI_ge (a := 23) (b := n) (by omega) (by omega)), e23, if_pos (by decide), if_pos (by omega)]
theorem cq_f {n e a : Nat} : cfQ n e a false = nI a := by unfold cfQ; rw [if_neg (fun q => absurd q.1 (by decide))]
theorem cq_lt {n e a : Nat} (b : Bool) (h : ¬ a = e) : cfQ n e a b = nI a := by unfold cfQ; rw [if_neg (fun q => h q.2)]
theorem fq_main (hx : TxC w t n) (ht : gI w a 2 = nI th) (h0 : 0 < min n 23) : ∀ m k f, th + k ≤ 8 → 3 * k ≤ min n 23 → min n 23 < 3 * k + 3 * m → min n 23 < 3 * k + f → L_X5_faultIn_12 F a (nI (min n 23)) (fqK F (nI (min n 23)) a) f w (nI (3 * k)) = some (cfQ n (min n 23) (wQ t (min n 23) th m k).2.1 (wQ t (min n 23) th m k).1, w) := by
  intro m
  have hn := hx.2.1
  have stop : ∀ f p, p = min n 23 → L_X5_faultIn_12 F a (nI (min n 23)) (fqK F (nI (min n 23)) a) (f + 1) w (nI p) = some (cfQ n (min n 23) (min n 23) (decide (min n 23 % 3 = 2)), w) := fun f p hp => by
    rw [L_X5_faultIn_12, hp, if_pos (Int32.le_refl _)]; exact fqK_e hx h0
  induction m with
  | zero => intro k f h1 h2 h3; omega
  | succ m ih =>
    intro k f h1 h2 h3 h4
    obtain ⟨f, rfl⟩ : ∃ q, f = q + 1 := ⟨f - 1, by omega⟩
    have fit := fun g p (hp : p < min n 23) => fq_step (F := F) (a := a) (th := th) (e := min n 23) hx (by omega) ht (by omega) (fqK F (nI (min n 23)) a) g p hp
    have m0 : 3 * k % 3 = 0 := by omega
    have m1 : (3 * k + 1) % 3 = 1 := by omega
    have m2 : (3 * k + 2) % 3 = 2 := by omega
    rw [wQ]
    by_cases p0 : 3 * k < min n 23
    · rw [fit f _ p0]
      have f0 : fitP t (min n 23) th (3 * k) ↔ o1P t (min n 23) (3 * k) ∧ th + k < 8 := by
        have := fit_0 (t := t) (e := min n 23) (th := th) m0; rw [show 3 * k / 3 = k from by omega] at this; exact this
      by_cases c1 : th + k = 8 ∨ ¬ o1P t (min n 23) (3 * k)
      · rw [if_neg (fun q => by have := f0.mp q; rcases c1 with z | z; omega; exact z this.1), if_pos c1, cq_f]
      have g1 : o1P t (min n 23) (3 * k) := by
        by_cases z : o1P t (min n 23) (3 * k)
        · exact z
        · exact absurd (.inr z) c1
      have g0 : ¬ th + k = 8 := fun z => c1 (.inl z)
      rw [if_neg c1, if_pos (f0.mpr ⟨g1, by omega⟩)]
      obtain ⟨f, rfl⟩ : ∃ q, f = q + 1 := ⟨f - 1, by omega⟩
      by_cases p1 : 3 * k + 1 < min n 23
      · rw [fit f _ p1]
        have f1 : fitP t (min n 23) th (3 * k + 1) ↔ dgP t (min n 23) (3 * k + 1) := fit_1 m1
        by_cases c2 : dgP t (min n 23) (3 * k + 1)
        · rw [if_pos (f1.mpr c2), if_neg (fun z => z c2)]
          obtain ⟨f, rfl⟩ : ∃ q, f = q + 1 := ⟨f - 1, by omega⟩
          by_cases p2 : 3 * k + 2 < min n 23
          · rw [fit f _ p2]
            have f2 : fitP t (min n 23) th (3 * k + 2) ↔ atP t (min n 23) (3 * k + 2) = 59 := fit_2 m2
            by_cases c3 : atP t (min n 23) (3 * k + 2) = 59
            · rw [if_pos (f2.mpr c3), if_pos c3]
              exact ih (k + 1) f (by omega) (by omega) (by omega) (by omega)
            · rw [if_neg (fun q => c3 (f2.mp q)), if_neg c3, cq_lt _ (by show ¬ 3 * k + 2 = min n 23; omega)]
          · have e2 : 3 * k + 2 = min n 23 := by have := dgP_lt c2; omega
            have c3 : ¬ atP t (min n 23) (3 * k + 2) = 59 := by rw [show atP t (min n 23) (3 * k + 2) = -1 from if_neg p2]; decide
            rw [stop f _ e2, if_neg c3, decide_eq_true (by omega)]
            show some (cfQ n (min n 23) (min n 23) true, w) = some (cfQ n (min n 23) (3 * k + 2) true, w)
            rw [e2]
        · rw [if_neg (fun q => c2 (f1.mp q)), if_pos c2, cq_f]
      · have e1 : 3 * k + 1 = min n 23 := by omega
        have c2 : ¬ dgP t (min n 23) (3 * k + 1) := fun q => by have := dgP_lt q; omega
        rw [stop f _ e1, if_pos c2, decide_eq_false (by omega), cq_f, cq_f, e1]
    · have e0 : 3 * k = min n 23 := by omega
      have c1 : th + k = 8 ∨ ¬ o1P t (min n 23) (3 * k) := .inr (fun q => by have := dgP_lt (o1_dg q); omega)
      rw [stop f _ e0, if_pos c1, decide_eq_false (by omega), cq_f, cq_f, e0]
def wS (t : Nat → Int32) (n th : Nat) : Bool × Nat × Nat := if n = 0 then (true, 0, 0) else wQ t (min n 23) th 9 0
theorem v_X5_faultIn (hF : 100 ≤ F) (hx : TxC w t n) (ht : gI w a 2 = nI th) (h8 : th ≤ 8) : P_X5_faultIn F w a = some (cfQ n (min n 23) (wS t n th).2.1 (wS t n th).1, w) := by
  have hn := hx.2.1
  have e : P_X5_faultIn F w a = L_X5_faultIn_12 F a (nI (min n 23)) (fqK F (nI (min n 23)) a) F w 0 := by
    unfold P_X5_faultIn
    rw [hx.1, show (23 : Int32) = nI 23 from rfl, minI_n (by omega) (by omega)]; rfl
  rw [e]
  unfold wS
  by_cases c : n = 0
  · subst c
    obtain ⟨f, rfl⟩ : ∃ q, F = q + 1 := ⟨F - 1, by omega⟩
    rw [if_pos rfl, L_X5_faultIn_12, if_pos (show nI (min 0 23) ≤ 0 from by decide)]
    unfold fqK
    rw [hx.1]; rfl
  · rw [if_neg c]
    exact fq_main hx ht (by omega) 9 0 F (by omega) (by omega) (by omega) (by omega)
end QA
