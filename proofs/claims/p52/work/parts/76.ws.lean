-- ===== a watch: how the class reads it =====
theorem cf_f {n e a : Nat} : cfP n e a false = nI a := by unfold cfP; rw [if_neg (fun q => absurd q.1 (by decide))]
theorem cf_lt {n e a : Nat} (b : Bool) (h : ¬ a = e) : cfP n e a b = nI a := by unfold cfP; rw [if_neg (fun q => h q.2)]
theorem cf_e {n e : Nat} : cfP n e e true = if 60 < n then 60 else -1 := by unfold cfP; rw [if_pos ⟨rfl, rfl⟩]
theorem mS_le (s : Int32) : mS s ≤ 3 := by
  unfold mS
  by_cases a : s < 0
  · rw [if_pos a]; decide
  · rw [if_neg a]
    by_cases b : s = 2
    · rw [if_pos b]; decide
    · rw [if_neg b]
      by_cases c : s = 3
      · rw [if_pos c]; decide
      · rw [if_neg c]; decide
theorem lS_le (s : Int32) : lS s ≤ 2 := by
  unfold lS; split <;> decide
section FB
variable {F : Nat} {w : Wd} {t : Nat → Int32} {n : Nat}
def faK (F : Nat) (x1 : Int32) : Wd → Int32 → Int32 → Option (Int32 × Wd) := (fun w x6 x7 => (if (gI w 1 1) ≤ 60 then (if x7 = 59 then K_X0_faultIn_201 F   w x1 else bnd (P_X0_least F w x7) (fun x67 w66 => lt (if x6 < x67 then 0 else 1 : Int32) (fun x69 => lt (if x1 = 0 then (-1) else if x69 = 0 then x1 else (-1) : Int32) (fun x72 => some (x72, w66))))) else some (60, w)))
theorem faK_59 (h : TxC w t n) (x : Int32) (h0 : 0 < min n 60) : faK F (nI (min n 60)) w x 59 = some (nI (min n 60), w) := by
  have hn := h.2.1
  unfold faK K_X0_faultIn_201 K_X0_faultIn_202
  rw [h.1]
  by_cases c : n ≤ 60
  · rw [if_pos (show nI n ≤ 60 from nI_le (a := n) (b := 60) c (by decide)), if_pos rfl, lt_v, if_neg (nI_ne0 h0 (by omega)), if_pos rfl]
  · rw [if_neg (show ¬ nI n ≤ 60 from nI_ge (a := 60) (b := n) (by omega) (by omega)), show min n 60 = 60 from by omega]; rfl
theorem faK_k (h : TxC w t n) (d L : Nat) (kind : Int32) (hk : ¬ kind = 59) (hL : P_X0_least F w kind = some (nI L, w)) (h3 : d < 100) (h4 : L < 100) (h0 : 0 < min n 60) : faK F (nI (min n 60)) w (nI d) kind = some (cfP n (min n 60) (min n 60) (decide (L ≤ d)), w) := by
  have hn := h.2.1
  unfold faK
  rw [h.1]
  by_cases c : n ≤ 60
  · rw [if_pos (show nI n ≤ 60 from nI_le (a := n) (b := 60) c (by decide)), if_neg hk, bnd_r hL, lt_v, lt_v, if_neg (nI_ne0 h0 (by omega))]
    by_cases c2 : L ≤ d
    · rw [if_neg (nI_nlt c2 (by omega)), if_neg (show ¬ (1 : Int32) = 0 from by decide), decide_eq_true c2, cf_e, if_neg (by omega)]
    · rw [if_pos (nI_lt (by omega) (by omega)), if_pos rfl, decide_eq_false c2, cf_f]
  · rw [if_neg (show ¬ nI n ≤ 60 from nI_ge (a := 60) (b := n) (by omega) (by omega))]
    have e60 : min n 60 = 60 := by omega
    by_cases c2 : L ≤ d
    · rw [decide_eq_true c2, cf_e, if_pos (by omega)]
    · rw [decide_eq_false c2, cf_f, e60]; rfl
theorem sg_end (t : Nat → Int32) (e : Nat) : sgP t e e = -1 ∧ ¬ dgP t e e := ⟨by
  have : atP t e e = -1 := if_neg (by omega)
  unfold sgP; rw [this]; decide, fun h => absurd (dgP_lt h) (by omega)⟩
theorem cnt_0 {t : Nat → Int32} {e p : Nat} (h : ¬ dgP t e p) (d : Nat) : cntP t e d p = 0 := by
  cases d with
  | zero => rfl
  | succ d => rw [cntP, if_neg h]
theorem ra_none {t : Nat → Int32} {e p : Nat} (h1 : sgP t e p = -1) (h2 : ¬ dgP t e p) : raAt t e p = p ∧ ¬ raOk t e p := by
  have e1 : p1P t e p = p := by unfold p1P; rw [h1, if_pos (by decide)]; rfl
  have e2 := cnt_0 h2 (mS (sgP t e p))
  unfold raAt raOk
  rw [e1, e2]
  refine ⟨rfl, ?_⟩
  rw [h1]; decide
theorem wP_no {t : Nat → Int32} {e m p : Nat} (h : ¬ (raOk t e p ∧ atP t e (raAt t e p) = 59)) : wP t e (m + 1) p = (decide (raOk t e p), raAt t e p, [p]) := by rw [wP, if_neg h]
theorem wP_yes {t : Nat → Int32} {e m p : Nat} (h : raOk t e p ∧ atP t e (raAt t e p) = 59) : wP t e (m + 1) p = ((wP t e m (raAt t e p + 1)).1, (wP t e m (raAt t e p + 1)).2.1, p :: (wP t e m (raAt t e p + 1)).2.2) := by rw [wP, if_pos h]
theorem fa_main (h : TxC w t n) (h0 : 0 < min n 60) : ∀ m p x f, p ≤ min n 60 → min n 60 < p + m → min n 60 < p + f → L_X0_faultIn_18 F (nI (min n 60)) (faK F (nI (min n 60))) f w x 59 (nI p) = some (cfP n (min n 60) (wP t (min n 60) m p).2.1 (wP t (min n 60) m p).1, w) := by
  intro m
  have hn := h.2.1
  induction m with
  | zero => intro p x f h1 h2 _; omega
  | succ m ih =>
    intro p x f h1 h2 h3
    obtain ⟨f, rfl⟩ : ∃ q, f = q + 1 := ⟨f - 1, by omega⟩
    by_cases hp : p < min n 60
    · -- the end of an act
      have fin : ∀ g d L M kind, ¬ kind = 59 → P_X0_most F w kind = some (nI M, w) → P_X0_least F w kind = some (nI L, w) → M < 100 → L < 100 → d < 100 → (L ≤ d ↔ raOk t (min n 60) p) → (¬ dgP t (min n 60) (raAt t (min n 60) p) ∨ M ≤ d) → min n 60 < raAt t (min n 60) p + g → L_X0_faultIn_18 F (nI (min n 60)) (faK F (nI (min n 60))) g w (nI d) kind (nI (raAt t (min n 60) p)) = some (cfP n (min n 60) (wP t (min n 60) (m + 1) p).2.1 (wP t (min n 60) (m + 1) p).1, w) := by
        intro g d L M kind hk hM hL hM1 hL1 hd1 hok hst hg
        have hra := ra_le (t := t) h1
        by_cases c : raAt t (min n 60) p = min n 60
        · obtain ⟨g, rfl⟩ : ∃ q, g = q + 1 := ⟨g - 1, by omega⟩
          have h59 : ¬ (raOk t (min n 60) p ∧ atP t (min n 60) (raAt t (min n 60) p) = 59) := fun q => by
            have := q.2; rw [c, show atP t (min n 60) (min n 60) = -1 from if_neg (by omega)] at this; exact absurd this (by decide)
          rw [wP_no h59, L_X0_faultIn_18, c, if_pos (Int32.le_refl _), faK_k h d L kind hk hL hd1 hL1 h0]
          have : decide (L ≤ d) = decide (raOk t (min n 60) p) := decide_eq_decide.mpr hok
          rw [this]
        · obtain ⟨g, rfl⟩ : ∃ q, g = q + 1 := ⟨g - 1, by omega⟩
          rw [fa_5 h (by omega) _ g d M L kind hk hM hL _ (by omega) hst hM1 hd1 hL1]
          by_cases c2 : raOk t (min n 60) p ∧ atP t (min n 60) (raAt t (min n 60) p) = 59
          · have hro := ra_ok h1 c2.1
            rw [if_pos ⟨hok.mpr c2.1, c2.2⟩, wP_yes c2]
            exact ih _ _ g (by omega) (by omega) (by omega)
          · rw [if_neg (fun q => c2 ⟨hok.mp q.1, q.2⟩), wP_no c2, cf_lt _ c]
      -- a letter
      have let5 : ∀ c M L, (c = 116 ∨ c = 108 ∨ c = 99 ∨ c = 109) → atP t (min n 60) p = c → ¬ sgP t (min n 60) p < 0 → M = mS (sgP t (min n 60) p) → L = lS (sgP t (min n 60) p) → P_X0_most F w c = some (nI M, w) → P_X0_least F w c = some (nI L, w) → L_X0_faultIn_18 F (nI (min n 60)) (faK F (nI (min n 60))) (f + 1) w x 59 (nI p) = some (cfP n (min n 60) (wP t (min n 60) (m + 1) p).2.1 (wP t (min n 60) (m + 1) p).1, w) := by
        intro c M L hc ha hs eM eL hM hL
        have hM3 : M ≤ 3 := by rw [eM]; exact mS_le _
        have hL3 : L ≤ 2 := by rw [eL]; exact lS_le _
        have hk : ¬ c = 59 := by rcases hc with rfl | rfl | rfl | rfl <;> decide
        have e1 : p1P t (min n 60) p = p + 1 := by unfold p1P; rw [if_neg hs]
        have era : raAt t (min n 60) p = p + 1 + cntP t (min n 60) M (p + 1) := by unfold raAt; rw [e1, ← eM]
        have hcl := cntP_le t (min n 60) M (p + 1) (by omega)
        rw [fa_2 h (by omega) _ f x c p hp hc ha]
        obtain ⟨g, hg⟩ : ∃ g, f = g + cntP t (min n 60) M (p + 1) := ⟨f - cntP t (min n 60) M (p + 1), by omega⟩
        have q := fa_dig (F := F) h (e := min n 60) (by omega) (faK F (nI (min n 60))) M c hk hM (by omega) M 0 (p + 1) g (by omega)
        rw [hg]
        refine q.trans ?_
        rw [← era, Nat.zero_add]
        refine fin g _ L M c hk hM hL (by omega) (by omega) (by omega) ?_ ?_ (by omega)
        · unfold raOk; rw [e1, ← eM, ← eL]
        · rcases cnt_end t (min n 60) M (p + 1) with r | r
          · exact .inr (by omega)
          · exact .inl (by rw [era]; exact r)
      rcases sg5 (atP t (min n 60) p) with ⟨c1, c2⟩ | ⟨c1, c2⟩ | ⟨c1, c2⟩ | ⟨c1, c2⟩ | ⟨c1, c2⟩
      · have hs : sgP t (min n 60) p = 0 := c2
        exact let5 116 1 1 (.inl rfl) c1 (by rw [hs]; decide) (by rw [hs]; rfl) (by rw [hs]; rfl) rfl rfl
      · have hs : sgP t (min n 60) p = 1 := c2
        exact let5 108 1 1 (.inr (.inl rfl)) c1 (by rw [hs]; decide) (by rw [hs]; rfl) (by rw [hs]; rfl) rfl rfl
      · have hs : sgP t (min n 60) p = 2 := c2
        exact let5 99 2 2 (.inr (.inr (.inl rfl))) c1 (by rw [hs]; decide) (by rw [hs]; rfl) (by rw [hs]; rfl) rfl rfl
      · have hs : sgP t (min n 60) p = 3 := c2
        exact let5 109 2 1 (.inr (.inr (.inr rfl))) c1 (by rw [hs]; decide) (by rw [hs]; rfl) (by rw [hs]; rfl) rfl rfl
      · have hs : sgP t (min n 60) p = -1 := c2
        by_cases hd : dgP t (min n 60) p
        · have e1 : p1P t (min n 60) p = p := by unfold p1P; rw [hs, if_pos (by decide)]; rfl
          have e3 : cntP t (min n 60) 3 p = cntP t (min n 60) 2 (p + 1) + 1 := by rw [cntP, if_pos hd]
          have hcl := cntP_le t (min n 60) 2 (p + 1) (by omega)
          have era : raAt t (min n 60) p = p + 1 + cntP t (min n 60) 2 (p + 1) := by
            unfold raAt; rw [e1, hs, show mS (-1) = 3 from rfl, e3]; omega
          rw [fa_1 h (by omega) _ f x p hp hd]
          obtain ⟨g, hg⟩ : ∃ g, f = g + cntP t (min n 60) 2 (p + 1) := ⟨f - cntP t (min n 60) 2 (p + 1), by omega⟩
          have q := fa_dig (F := F) h (e := min n 60) (by omega) (faK F (nI (min n 60))) 3 48 (by decide) rfl (by omega) 2 1 (p + 1) g (by omega)
          rw [hg]
          refine q.trans ?_
          rw [← era]
          refine fin g _ 1 3 48 (by decide) rfl rfl (by omega) (by omega) (by omega) ?_ ?_ (by omega)
          · unfold raOk; rw [e1, hs, show mS (-1) = 3 from rfl, show lS (-1) = 1 from rfl, e3]; omega
          · rcases cnt_end t (min n 60) 2 (p + 1) with r | r
            · exact .inr (by omega)
            · exact .inl (by rw [era]; exact r)
        · obtain ⟨r1, r2⟩ := ra_none hs hd
          rw [fa_3 h (by omega) _ f x p hp hd c1, wP_no (fun q => r2 q.1), decide_eq_false r2, cf_f, r1]
    · obtain rfl : p = min n 60 := by omega
      obtain ⟨r1, r2⟩ := ra_none (sg_end t (min n 60)).1 (sg_end t (min n 60)).2
      rw [L_X0_faultIn_18, if_pos (Int32.le_refl _), faK_59 h x h0, wP_no (fun q => r2 q.1), decide_eq_false r2, cf_f, r1]
/-- a reading, from the first sign on -/
def wR (t : Nat → Int32) (n : Nat) : Bool × Nat × List Nat := if n = 0 then (true, 0, []) else wP t (min n 60) 61 0
theorem v_X0_faultIn (hF : 100 ≤ F) (h : TxC w t n) : P_X0_faultIn F w = some (cfP n (min n 60) (wR t n).2.1 (wR t n).1, w) := by
  have hn := h.2.1
  have e : P_X0_faultIn F w = L_X0_faultIn_18 F (nI (min n 60)) (faK F (nI (min n 60))) F w 0 59 0 := by
    unfold P_X0_faultIn
    rw [h.1, show (60 : Int32) = nI 60 from rfl, minI_n (by omega) (by omega)]; rfl
  rw [e]
  unfold wR
  by_cases c : n = 0
  · subst c
    obtain ⟨f, rfl⟩ : ∃ q, F = q + 1 := ⟨F - 1, by omega⟩
    rw [if_pos rfl, L_X0_faultIn_18, if_pos (show nI (min 0 60) ≤ 0 from by decide)]
    unfold faK
    rw [h.1]; rfl
  · rw [if_neg c]
    exact fa_main h (by omega) 61 0 0 F (by omega) (by omega) (by omega)
end FB
