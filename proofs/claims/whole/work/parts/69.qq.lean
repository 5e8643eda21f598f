-- ===== the model's rows of ways =====
def wysM (w : Wd) (R : Nat) (ft : Nat → Nat → Bool) : Prop := ∀ k r, k < 6 → r < R → gI w 114 (8 * k + r) = nI (Ww ft (5 - k) r) ∧ gI w 115 (8 * k + r) = bI (posB ft k r)
/-- nobody beyond fits -/
def fbnd (ft : Nat → Nat → Bool) (R : Nat) : Prop := ∀ k r, R ≤ r → ft k r = false
theorem Vw_0 {ft : Nat → Nat → Bool} {R : Nat} (h : fbnd ft R) : ∀ k r, R ≤ r → Vw ft k r = 0 := by
  intro k r hr
  cases k with
  | zero => show b01 (ft 0 r) = 0; rw [h 0 r hr]; rfl
  | succ k => show b01 (ft (k + 1) r) * _ = 0; rw [h (k + 1) r hr]; exact Nat.zero_mul _
theorem Ww_0 {ft : Nat → Nat → Bool} {R : Nat} (h : fbnd ft R) : ∀ d r, R ≤ r → Ww ft d r = 0 := by
  intro d r hr
  cases d with
  | zero => show b01 (ft 5 r) = 0; rw [h 5 r hr]; rfl
  | succ d => show b01 (ft (4 - d) r) * _ = 0; rw [h (4 - d) r hr]; exact Nat.zero_mul _
theorem b01_pos {x : Bool} {y : Nat} : 0 < b01 x * y ↔ x = true ∧ 0 < y := by
  cases x
  · show 0 < 0 * y ↔ _
    rw [Nat.zero_mul]
    exact ⟨fun h => absurd h (Nat.lt_irrefl _), fun h => by cases h.1⟩
  · show 0 < 1 * y ↔ _
    rw [Nat.one_mul]
    exact ⟨fun h => ⟨rfl, h⟩, fun h => h.2⟩
/-- whether one can be there is told from one shift to the next -/
theorem pos_step {ft : Nat → Nat → Bool} {R : Nat} (hR : R ≤ 8) (h : fbnd ft R) (k r : Nat) (hk : k < 5) (hr : r < 8) : posB ft (k + 1) r = true ↔ (∃ o, o < R ∧ o ≠ r ∧ posB ft k o = true) ∧ 0 < Ww ft (5 - (k + 1)) r := by
  unfold posB
  simp only [Bool.and_eq_true, decide_eq_true_eq]
  have eV : 0 < Vw ft (k + 1) r ↔ ft (k + 1) r = true ∧ 0 < oth (Vw ft k) r := b01_pos
  have eW : Ww ft (5 - k) = Ww ft (5 - (k + 1) + 1) := by rw [show 5 - (k + 1) + 1 = 5 - k by omega]
  refine ⟨fun ⟨h1, h2⟩ => ⟨?_, h2⟩, fun ⟨⟨o, o1, o2, o3, o4⟩, h2⟩ => ⟨?_, h2⟩⟩
  · obtain ⟨-, h3⟩ := eV.mp h1
    obtain ⟨o, p1, p2, p3⟩ := (oth_pos hr).mp h3
    have hoR : o < R := by
      rcases Nat.lt_or_ge o R with q | q
      · exact q
      · rw [Vw_0 h k o q] at p3; exact absurd p3 (Nat.lt_irrefl _)
    have hfo : ft k o = true := by
      cases k with
      | zero =>
        have : Vw ft 0 o = b01 (ft 0 o) := rfl
        rw [this] at p3
        cases e : ft 0 o
        · rw [e] at p3; exact absurd p3 (by decide)
        · rfl
      | succ k => exact (b01_pos.mp p3).1
    refine ⟨o, hoR, p2, p3, ?_⟩
    rw [eW]
    show 0 < b01 (ft (4 - (5 - (k + 1))) o) * oth (Ww ft (5 - (k + 1))) o
    rw [show 4 - (5 - (k + 1)) = k by omega]
    exact b01_pos.mpr ⟨hfo, (oth_pos (by omega)).mpr ⟨r, hr, Ne.symm p2, h2⟩⟩
  · refine eV.mpr ⟨?_, (oth_pos hr).mpr ⟨o, by omega, o2, o3⟩⟩
    rcases (show 5 - (k + 1) = 0 ∨ ∃ d, 5 - (k + 1) = d + 1 from by
      rcases Nat.eq_zero_or_pos (5 - (k + 1)) with q | q
      · exact .inl q
      · exact .inr ⟨5 - (k + 1) - 1, by omega⟩) with q | ⟨d, q⟩
    · rw [q] at h2
      have : Ww ft 0 r = b01 (ft 5 r) := rfl
      rw [this] at h2
      rw [show k + 1 = 5 by omega]
      cases e : ft 5 r
      · rw [e] at h2; exact absurd h2 (by decide)
      · rfl
    · rw [q] at h2
      have h3 := (b01_pos.mp h2).1
      rw [show 4 - d = k + 1 by omega] at h3
      exact h3
theorem pos_0 {ft : Nat → Nat → Bool} (r : Nat) : posB ft 0 r = true ↔ 0 < Ww ft 5 r := by
  unfold posB
  simp only [Bool.and_eq_true, decide_eq_true_eq]
  refine ⟨fun h => h.2, fun h => ⟨?_, h⟩⟩
  have h3 := (b01_pos.mp h).1
  show 0 < b01 (ft 0 r)
  rw [show ft 0 r = true from h3]
  decide
def oneO (g : Nat → Nat) (r : Nat) : Nat → Nat → Nat
  | _, 0 => 0
  | j, m + 1 => (if j = r then 0 else g j) + oneO g r (j + 1) m
theorem oneO_e (g : Nat → Nat) (r : Nat) : ∀ m j, (if j ≤ r ∧ r < j + m then oneO g r j m + g r = sumN g j m else oneO g r j m = sumN g j m) := by
  intro m
  induction m with
  | zero => intro j; rw [if_neg (by omega)]; rfl
  | succ m ih =>
    intro j
    have h := ih (j + 1)
    by_cases hj : j = r
    · subst hj
      rw [if_neg (by omega)] at h
      rw [if_pos (by omega)]
      show (if j = j then 0 else g j) + oneO g j (j + 1) m + g j = g j + sumN g (j + 1) m
      rw [if_pos rfl, h]; omega
    · have e1 : oneO g r j (m + 1) = g j + oneO g r (j + 1) m := by show (if j = r then 0 else g j) + _ = _; rw [if_neg hj]
      have e2 : sumN g j (m + 1) = g j + sumN g (j + 1) m := rfl
      by_cases hq : j + 1 ≤ r ∧ r < j + 1 + m
      · rw [if_pos hq] at h
        rw [if_pos (by omega), e1, e2]; omega
      · rw [if_neg hq] at h
        rw [if_neg (by omega), e1, e2, h]
theorem oneO_oth {g : Nat → Nat} {R r : Nat} (hR : R ≤ 8) (hr : r < R) (h0 : ∀ i, R ≤ i → g i = 0) : oneO g r 0 R = oth g r := by
  have h := oneO_e g r R 0
  rw [if_pos (by omega)] at h
  have e : sumN g 0 8 = sumN g 0 R := by
    rw [show (8 : Nat) = R + (8 - R) by omega, sumN_split, sumN_0 (8 - R) (0 + R) (fun i a b => h0 i (by omega)), Nat.add_zero]
  unfold oth
  rw [e]
  omega
/-- the model's rows may be written -/
def NL (a k : Nat) : Prop := a = 114 ∨ a = 115 ∨ Sc a k
theorem NL_QN {a k : Nat} (h : NL a k) : QN a k := by unfold NL Sc at h; unfold QN; omega
theorem l_X11_lr33 {F : Nat} (hF : 2000 ≤ F) {w : Wd} {R : Nat} (hR : R ≤ 8) (eR : gI w 88 3 = nI R) (k r : Nat) (hk : k < 5) (hr8 : r < 8) (g : Nat → Nat) (hg : ∀ o, o < R → gI w 114 (8 * (k + 1) + o) = nI (g o)) (kk : Wd → Int32 → Option Wd) : ∀ m j, j + m = R → ∀ n, m < n → ∀ x : Nat, L_X11_laysRows_33 F (nI k) (nI r) kk n w (nI x) (nI j) = kk w (nI (x + oneO g r j m)) := by
  intro m
  induction m with
  | zero =>
    intro j hj n hn x
    obtain ⟨n, rfl⟩ : ∃ q, n = q + 1 := ⟨n - 1, by omega⟩
    obtain rfl : j = R := by omega
    rw [L_X11_laysRows_33, eR, if_pos (Int32.le_refl _)]
    rfl
  | succ m ih =>
    intro j hj n hn x
    obtain ⟨n, rfl⟩ : ∃ q, n = q + 1 := ⟨n - 1, by omega⟩
    rw [L_X11_laysRows_33, eR, if_neg (nI_ge (by omega) (by omega)), if_neg (show ¬ (5 : Int32) ≤ nI k from nI_ge (a := k) (b := 5) (by omega) (by decide))]
    unfold K_X11_laysRows_72
    by_cases c : j = r
    · · rw [if_pos (by rw [c]), lt_v, lt_v, nI_1, show nI x + 0 = nI x from add0 _, ih (j + 1) (by omega) n (by omega)]
        show _ = kk w (nI (x + ((if j = r then 0 else g j) + oneO g r (j + 1) m)))
        rw [if_pos c, Nat.zero_add]
    · have c2 : ¬ nI j = nI r := fun e => c ((nI_eq (by omega) (by omega)).mp e)
      · rw [if_neg c2, show 8 * (nI k + 1) + nI j = nI (8 * (k + 1) + j) from by rw [nI_1, show (8 : Int32) = nI 8 from rfl, pk_mul, nI_add], gd_t (inB_n (show 8 * (k + 1) + j < 48 by omega) (by omega)), nI_clamp (by omega), lt_v, lt_v, nI_1, hg j (by omega), nI_add, ih (j + 1) (by omega) n (by omega), Nat.add_assoc]
        show _ = kk w (nI (x + ((if j = r then 0 else g j) + oneO g r (j + 1) m)))
        rw [if_neg c]
/-- the ground of the night on the model's side -/
theorem l_X11_lr8 {F : Nat} (hF : 2000 ≤ F) {w : Wd} {T : Tw} {b : Bl} {R p N : Nat} (g : MG w T b R p N) {c : Nat} {f : Nf} (hn : NtM w c f) (hok : okNf c f) (k : Nat) (hk : k < 6) (kk : Wd → Option Wd) : ∀ m j, j + m = R → ∀ n, m < n → ∀ v, Fm NL w v → (∀ l r, k < l → l < 6 → r < R → gI v 114 (8 * l + r) = nI (Ww (ftT T b R c f) (5 - l) r)) → (∀ r, r < j → gI v 114 (8 * k + r) = nI (Ww (ftT T b R c f) (5 - k) r)) →
    ∃ v2, L_X11_laysRows_8 F (nI k) kk n v (nI j) = kk v2 ∧ Fm NL w v2 ∧ (∀ l r, k ≤ l → l < 6 → r < R → gI v2 114 (8 * l + r) = nI (Ww (ftT T b R c f) (5 - l) r)) := by
  have hR := g.1.1
  have hfb : fbnd (ftT T b R c f) R := fun k r hr => by unfold ftT; rw [decide_eq_false (by omega), Bool.false_and]
  intro m
  induction m with
  | zero =>
    intro j hj n hn2 v h1 h2 h3
    obtain ⟨n, rfl⟩ : ∃ q, n = q + 1 := ⟨n - 1, by omega⟩
    obtain rfl : j = R := by omega
    have eR := (MG_QN g (h1.imp (fun _ _ h => NL_QN h))).2.1.1
    rw [L_X11_laysRows_8, eR, if_pos (Int32.le_refl _)]
    refine ⟨v, rfl, h1, fun l r hl hl6 hr => ?_⟩
    by_cases hlk : l = k
    · subst hlk; exact h3 r hr
    · exact h2 l r (by omega) hl6 hr
  | succ m ih =>
    intro j hj n hn2 v h1 h2 h3
    obtain ⟨n, rfl⟩ : ∃ q, n = q + 1 := ⟨n - 1, by omega⟩
    have gv := MG_QN g (h1.imp (fun _ _ h => NL_QN h))
    have eR := gv.2.1.1
    have hnv := NtM_QN hn (h1.imp (fun _ _ h => NL_QN h))
    have go : ∀ S : Nat, (b01 (ftT T b R c f k j) * S = Ww (ftT T b R c f) (5 - k) j) → ∃ v2, K_X11_laysRows_80 F (nI k) kk (L_X11_laysRows_8 F (nI k) kk n) v (nI j) (nI S) = kk v2 ∧ Fm NL w v2 ∧ (∀ l r, k ≤ l → l < 6 → r < R → gI v2 114 (8 * l + r) = nI (Ww (ftT T b R c f) (5 - l) r)) := by
      intro S hS
      obtain ⟨v1, a1, a2⟩ := v_X11_fits hF gv hnv hok k j
      unfold K_X11_laysRows_80
      rw [bnd_r a1, lt_v, show 8 * nI k + nI j = nI (8 * k + j) from by rw [show (8 : Int32) = nI 8 from rfl, pk_mul, nI_add], gd_t (inB_n (show 8 * k + j < 48 by omega) (by omega)), lt_v, lt_v, nI_1, nI_clamp (by omega)]
      have hval : (if bI (fitB c f k (loudV T b (bit1 j) 0)) = 0 then 0 else nI S) = nI (Ww (ftT T b R c f) (5 - k) j) := by
        rw [← hS]
        unfold ftT
        rw [decide_eq_true (show j < R by omega), Bool.true_and]
        cases fitB c f k (loudV T b (bit1 j) 0)
        · rw [if_pos (show bI false = 0 from rfl)]; show (0 : Int32) = nI (0 * S); rw [Nat.zero_mul]; rfl
        · rw [if_neg (show ¬ bI true = 0 from (by decide : ¬ (1 : Int32) = 0))]; show nI S = nI (1 * S); rw [Nat.one_mul]
      rw [hval]
      refine ih (j + 1) (by omega) n (by omega) _ ((h1.tr (a2.imp (fun _ _ h => .inr (.inr h)))).sI (.inl rfl)) (fun l r hl hl6 hr => ?_) (fun r hr => ?_)
      · rw [gIk (by omega), (a2 114 _ (by unfold Sc; omega)).1]; exact h2 l r hl hl6 hr
      · by_cases hrj : r = j
        · subst hrj; exact gIs
        · rw [gIk (by omega), (a2 114 _ (by unfold Sc; omega)).1]; exact h3 r (by omega)
    rw [L_X11_laysRows_8, eR, if_neg (nI_ge (by omega) (by omega)), lt_v, bnd_r (v_X11_flag F v _)]
    by_cases h5 : k = 5
    · subst h5
      rw [if_pos (show nI 5 = 5 from rfl), if_neg (show ¬ (1 : Int32) = 0 by decide)]
      obtain ⟨F', rfl⟩ : ∃ q, F = q + 1 := ⟨F - 1, by omega⟩
      rw [L_X11_laysRows_33, eR, if_neg (show ¬ nI R ≤ 0 from nI_nle (by omega) (by omega)), if_pos (show (5 : Int32) ≤ nI 5 from Int32.le_refl _)]
      exact go 1 (Nat.mul_one _)
    · rw [if_neg (show ¬ nI k = 5 from fun e => h5 ((nI_eq (a := k) (b := 5) (by omega) (by decide)).mp e)), if_pos rfl]
      rw [show L_X11_laysRows_33 F (nI k) (nI j) _ F v 0 0 = _ from l_X11_lr33 hF hR eR k j (by omega) (by omega) (Ww (ftT T b R c f) (5 - (k + 1))) (fun o ho => h2 (k + 1) o (by omega) (by omega) ho) _ R 0 (by omega) F (by omega) 0, Nat.zero_add]
      refine go _ ?_
      rw [oneO_oth hR (by omega) (fun i hi => Ww_0 hfb _ i hi)]
      obtain ⟨d, hd⟩ : ∃ d, 5 - k = d + 1 := ⟨4 - k, by omega⟩
      rw [hd]
      show _ = b01 (ftT T b R c f (4 - d) j) * oth (Ww (ftT T b R c f) d) j
      rw [show 4 - d = k by omega, show 5 - (k + 1) = d by omega]
theorem l_X11_lr2 {F : Nat} (hF : 2000 ≤ F) {w : Wd} {T : Tw} {b : Bl} {R p N : Nat} (g : MG w T b R p N) {c : Nat} {f : Nf} (hn : NtM w c f) (hok : okNf c f) (kk : Wd → Option Wd) : ∀ m, m ≤ 6 → ∀ n, m < n → ∀ v, Fm NL w v → (∀ l r, m ≤ l → l < 6 → r < R → gI v 114 (8 * l + r) = nI (Ww (ftT T b R c f) (5 - l) r)) →
    ∃ v2, L_X11_laysRows_2 F kk n v (nI m - 1) = kk v2 ∧ Fm NL w v2 ∧ (∀ l r, l < 6 → r < R → gI v2 114 (8 * l + r) = nI (Ww (ftT T b R c f) (5 - l) r)) := by
  intro m
  induction m with
  | zero =>
    intro _ n hn2 v h1 h2
    obtain ⟨n, rfl⟩ : ∃ q, n = q + 1 := ⟨n - 1, by omega⟩
    rw [L_X11_laysRows_2, if_pos (by decide)]
    exact ⟨v, rfl, h1, fun l r hl hr => h2 l r (by omega) hl hr⟩
  | succ m ih =>
    intro hm n hn2 v h1 h2
    obtain ⟨n, rfl⟩ : ∃ q, n = q + 1 := ⟨n - 1, by omega⟩
    rw [nI_pred, L_X11_laysRows_2, if_neg (nI_pos (by omega))]
    obtain ⟨v2, a1, a2, a3⟩ := l_X11_lr8 hF g hn hok m (by omega) (fun w  => lt (nI m + (-1) : Int32) (fun x35 => L_X11_laysRows_2 F kk n w x35)) R 0 (by omega) F (by have := g.1.1; omega) v h1 (fun l r hl hl6 hr => h2 l r (by omega) hl6 hr) (fun r hr => absurd hr (Nat.not_lt_zero _))
    rw [show L_X11_laysRows_8 F (nI m) _ F v 0 = _ from a1, lt_v, show nI m + (-1) = nI m - 1 from (Int32.sub_eq_add_neg _ _).symm]
    exact ih (by omega) n (by omega) v2 a2 (fun l r hl hl6 hr => a3 l r hl hl6 hr)
/-- whether another one was there -/
def exO (h : Nat → Bool) (r : Nat) : Nat → Nat → Bool
  | _, 0 => false
  | j, m + 1 => (if j = r then false else h j) || exO h r (j + 1) m
theorem exO_e (h : Nat → Bool) (r : Nat) : ∀ m j, exO h r j m = true ↔ ∃ o, j ≤ o ∧ o < j + m ∧ o ≠ r ∧ h o = true := by
  intro m
  induction m with
  | zero => intro j; exact ⟨(fun q => by cases q), fun ⟨o, a, b, _⟩ => by omega⟩
  | succ m ih =>
    intro j
    show ((if j = r then false else h j) || exO h r (j + 1) m) = true ↔ _
    rw [Bool.or_eq_true, ih]
    refine ⟨fun q => ?_, fun ⟨o, a, b, c, d⟩ => ?_⟩
    · rcases q with q | ⟨o, a, b, c, d⟩
      · by_cases hj : j = r
        · rw [if_pos hj] at q; cases q
        · rw [if_neg hj] at q; exact ⟨j, Nat.le_refl _, by omega, hj, q⟩
      · exact ⟨o, by omega, by omega, c, d⟩
    · by_cases ho : o = j
      · subst ho; left; rw [if_neg c]; exact d
      · right; exact ⟨o, by omega, by omega, c, d⟩
theorem l_X11_lr148 {F : Nat} {w : Wd} {R : Nat} (hR : R ≤ 8) (eR : gI w 88 3 = nI R) (k r : Nat) (hk : k < 5) (hr8 : r < 8) (h : Nat → Bool) (hh : ∀ o, o < R → gI w 115 (8 * k + o) = bI (h o)) (kk : Wd → Int32 → Option Wd) : ∀ m j, j + m = R → ∀ n, m < n → ∀ x : Bool, L_X11_laysRows_148 F (nI (k + 1)) (nI r) kk n w (bI x) (nI j) = kk w (bI (x || exO h r j m)) := by
  intro m
  induction m with
  | zero =>
    intro j hj n hn x
    obtain ⟨n, rfl⟩ : ∃ q, n = q + 1 := ⟨n - 1, by omega⟩
    obtain rfl : j = R := by omega
    rw [L_X11_laysRows_148, eR, if_pos (Int32.le_refl _)]
    show kk w (bI x) = kk w (bI (x || false))
    rw [Bool.or_false]
  | succ m ih =>
    intro j hj n hn x
    obtain ⟨n, rfl⟩ : ∃ q, n = q + 1 := ⟨n - 1, by omega⟩
    rw [L_X11_laysRows_148, eR, if_neg (nI_ge (by omega) (by omega)), if_neg (nI_nle (by omega) (by omega))]
    show _ = kk w (bI (x || ((if j = r then false else h j) || exO h r (j + 1) m)))
    unfold K_X11_laysRows_192 K_X11_laysRows_188 K_X11_laysRows_193
    cases x
    · rw [if_pos (show bI false = 0 from rfl)]
      by_cases c : j = r
      · rw [if_pos (by rw [c]), lt_v, nI_1, if_pos c, Bool.false_or, Bool.false_or]
        have := ih (j + 1) (by omega) n (by omega) false
        rw [Bool.false_or] at this
        exact this
      · rw [if_neg (fun e => c ((nI_eq (by omega) (by omega)).mp e)), show 8 * (nI (k + 1) - 1) + nI j = nI (8 * k + j) from by rw [nI_pred, show (8 : Int32) = nI 8 from rfl, pk_mul, nI_add], gd_t (inB_n (show 8 * k + j < 48 by omega) (by omega)), nI_clamp (by omega), lt_v, lt_v, nI_1, hh j (by omega), if_neg c, Bool.false_or]
        have := ih (j + 1) (by omega) n (by omega) (h j)
        rw [← this]
        cases h j <;> rfl
    · rw [if_neg (show ¬ bI true = 0 from (by decide : ¬ (1 : Int32) = 0)), lt_v, nI_1, Bool.true_or]
      have := ih (j + 1) (by omega) n (by omega) true
      rw [Bool.true_or] at this
      exact this
def N115 (a _k : Nat) : Prop := a = 115
theorem l_X11_lr127 {F : Nat} (hF : 2000 ≤ F) {w : Wd} {R : Nat} (hR : R ≤ 8) (eR : gI w 88 3 = nI R) {ft : Nat → Nat → Bool} (hfb : fbnd ft R) (hW : ∀ l r, l < 6 → r < R → gI w 114 (8 * l + r) = nI (Ww ft (5 - l) r)) (k : Nat) (hk : k < 6) (kk : Wd → Option Wd) : ∀ m j, j + m = R → ∀ n, m < n → ∀ v, Fm N115 w v → (∀ l r, l < k → r < R → gI v 115 (8 * l + r) = bI (posB ft l r)) → (∀ r, r < j → gI v 115 (8 * k + r) = bI (posB ft k r)) →
    ∃ v2, L_X11_laysRows_127 F (nI k) kk n v (nI j) = kk v2 ∧ Fm N115 w v2 ∧ (∀ l r, l ≤ k → r < R → gI v2 115 (8 * l + r) = bI (posB ft l r)) := by
  intro m
  induction m with
  | zero =>
    intro j hj n hn v h1 h2 h3
    obtain ⟨n, rfl⟩ : ∃ q, n = q + 1 := ⟨n - 1, by omega⟩
    obtain rfl : j = R := by omega
    rw [L_X11_laysRows_127, (h1 88 3 (by unfold N115; omega)).1, eR, if_pos (Int32.le_refl _)]
    refine ⟨v, rfl, h1, fun l r hl hr => ?_⟩
    by_cases hlk : l = k
    · subst hlk; exact h3 r hr
    · exact h2 l r (by omega) hr
  | succ m ih =>
    intro j hj n hn v h1 h2 h3
    obtain ⟨n, rfl⟩ : ∃ q, n = q + 1 := ⟨n - 1, by omega⟩
    have eRv : gI v 88 3 = nI R := by rw [(h1 88 3 (by unfold N115; omega)).1]; exact eR
    have hWv : gI v 114 (8 * k + j) = nI (Ww ft (5 - k) j) := by rw [(h1 114 _ (by unfold N115; omega)).1]; exact hW k j hk (by omega)
    have go : ∀ x : Bool, (x && decide (0 < Ww ft (5 - k) j)) = posB ft k j → ∃ v2, K_X11_laysRows_200 F (nI k) kk (L_X11_laysRows_127 F (nI k) kk n) v (nI j) (bI x) = kk v2 ∧ Fm N115 w v2 ∧ (∀ l r, l ≤ k → r < R → gI v2 115 (8 * l + r) = bI (posB ft l r)) := by
      intro x hx
      have fin : ∀ y : Int32, y = bI (posB ft k j) → ∃ v2, L_X11_laysRows_127 F (nI k) kk n (sI v 115 (8 * k + j) y) (nI (j + 1)) = kk v2 ∧ Fm N115 w v2 ∧ (∀ l r, l ≤ k → r < R → gI v2 115 (8 * l + r) = bI (posB ft l r)) := by
        intro y hy
        refine ih (j + 1) (by omega) n (by omega) _ (h1.sI rfl) (fun l r hl hr => by rw [gIk (by omega)]; exact h2 l r hl hr) (fun r hr => ?_)
        by_cases hrj : r = j
        · subst hrj; rw [gIs]; exact hy
        · rw [gIk (by omega)]; exact h3 r (by omega)
      have hix : 8 * nI k + nI j = nI (8 * k + j) := by rw [show (8 : Int32) = nI 8 from rfl, pk_mul, nI_add]
      unfold K_X11_laysRows_200 K_X11_laysRows_232 K_X11_laysRows_233
      cases x
      · rw [if_pos (show bI false = 0 from rfl), hix, gd_t (inB_n (show 8 * k + j < 48 by omega) (by omega)), gd_t (show isZO 0 = true from rfl), lt_v, lt_v, nI_1, nI_clamp (by omega)]
        exact fin 0 (by rw [← hx]; rfl)
      · rw [if_neg (show ¬ bI true = 0 from (by decide : ¬ (1 : Int32) = 0)), hix, gd_t (inB_n (show 8 * k + j < 48 by omega) (by omega)), nI_clamp (by omega), hWv, lt_v, gd_t (inB_n (show 8 * k + j < 48 by omega) (by omega)), gd_t isZO_i, lt_v, lt_v, nI_1]
        refine fin _ ?_
        rw [← hx, Bool.true_and]
        by_cases c : Ww ft (5 - k) j = 0
        · rw [if_pos ((nI_le0 (W31 ft (by omega) j)).mpr c), decide_eq_false (by omega)]; rfl
        · rw [if_neg (fun q => c ((nI_le0 (W31 ft (by omega) j)).mp q)), decide_eq_true (by omega)]; rfl
    rw [L_X11_laysRows_127, eRv, if_neg (nI_ge (by omega) (by omega)), lt_v]
    rcases (show k = 0 ∨ ∃ l, k = l + 1 from by
      cases k with
      | zero => exact .inl rfl
      | succ l => exact .inr ⟨l, rfl⟩) with rfl | ⟨l, rfl⟩
    · rw [if_pos (show nI 0 = 0 from rfl)]
      obtain ⟨F', rfl⟩ : ∃ q, F = q + 1 := ⟨F - 1, by omega⟩
      rw [L_X11_laysRows_148, eRv, if_neg (show ¬ nI R ≤ 0 from nI_nle (by omega) (by omega)), if_pos (show nI 0 ≤ 0 from Int32.le_refl _)]
      refine go true ?_
      rw [Bool.true_and]
      cases e : posB ft 0 j
      · refine decide_eq_false (fun q => ?_)
        rw [pos_0 j |>.mpr q] at e
        cases e
      · exact decide_eq_true ((pos_0 j).mp e)
    · rw [if_neg (nI_ne0 (by omega) (by omega))]
      rw [show L_X11_laysRows_148 F (nI (l + 1)) (nI j) _ F v 0 0 = _ from l_X11_lr148 hR eRv l j (by omega) (by omega) (posB ft l) (fun o ho => h2 l o (by omega) ho) _ R 0 (by omega) F (by omega) false, Bool.false_or]
      refine go _ ?_
      have hs := pos_step hR hfb l j (by omega) (by omega)
      cases e : posB ft (l + 1) j
      · cases e2 : exO (posB ft l) j 0 R
        · rfl
        · rw [Bool.true_and]
          refine decide_eq_false (fun q => ?_)
          obtain ⟨o, a1, a2, a3, a4⟩ := (exO_e _ j R 0).mp e2
          rw [hs.mpr ⟨⟨o, by omega, a3, a4⟩, q⟩] at e
          cases e
      · obtain ⟨⟨o, a1, a2, a3⟩, a4⟩ := hs.mp e
        rw [(exO_e _ j R 0).mpr ⟨o, by omega, by omega, a2, a3⟩, Bool.true_and]
        exact decide_eq_true a4
theorem l_X11_lr119 {F : Nat} (hF : 2000 ≤ F) {w : Wd} {R : Nat} (hR : R ≤ 8) (eR : gI w 88 3 = nI R) {ft : Nat → Nat → Bool} (hfb : fbnd ft R) (hW : ∀ l r, l < 6 → r < R → gI w 114 (8 * l + r) = nI (Ww ft (5 - l) r)) (kk : Wd → Option Wd) : ∀ m j, j + m = 6 → ∀ n, m < n → ∀ v, Fm N115 w v → (∀ l r, l < j → r < R → gI v 115 (8 * l + r) = bI (posB ft l r)) →
    ∃ v2, L_X11_laysRows_119 F kk n v (nI j) = kk v2 ∧ Fm N115 w v2 ∧ (∀ l r, l < 6 → r < R → gI v2 115 (8 * l + r) = bI (posB ft l r)) := by
  intro m
  induction m with
  | zero =>
    intro j hj n hn v h1 h2
    obtain ⟨n, rfl⟩ : ∃ q, n = q + 1 := ⟨n - 1, by omega⟩
    obtain rfl : j = 6 := by omega
    rw [L_X11_laysRows_119, if_pos (show (6 : Int32) ≤ nI 6 from Int32.le_refl _)]
    exact ⟨v, rfl, h1, h2⟩
  | succ m ih =>
    intro j hj n hn v h1 h2
    obtain ⟨n, rfl⟩ : ∃ q, n = q + 1 := ⟨n - 1, by omega⟩
    rw [L_X11_laysRows_119, if_neg (show ¬ (6 : Int32) ≤ nI j from nI_ge (a := j) (b := 6) (by omega) (by decide))]
    obtain ⟨v2, a1, a2, a3⟩ := l_X11_lr127 hF hR eR hfb hW j (by omega) (fun w  => lt (nI j + 1 : Int32) (fun x84 => L_X11_laysRows_119 F kk n w x84)) R 0 (by omega) F (by omega) v h1 h2 (fun r hr => absurd hr (Nat.not_lt_zero _))
    rw [show L_X11_laysRows_127 F (nI j) _ F v 0 = _ from a1, lt_v, nI_1]
    exact ih (j + 1) (by omega) n (by omega) v2 a2 (fun l r hl hr => a3 l r (by omega) hr)
theorem ftT_b (T : Tw) (b : Bl) (R c : Nat) (f : Nf) : fbnd (ftT T b R c f) R := fun k r hr => by unfold ftT; rw [decide_eq_false (by omega), Bool.false_and]
theorem m_lays {F : Nat} (hF : 2000 ≤ F) {w w0 : Wd} {T : Tw} {b : Bl} {R p N : Nat} (g : MG w T b R p N) (h0 : Fm QN w w0) {c : Nat} {f : Nf} (hn : NtM w c f) (hok : okNf c f) : ∃ w2, P_X11_laysRows F w0 = some w2 ∧ Fm QN w w2 ∧ wysM w2 R (ftT T b R c f) := by
  have hR := g.1.1
  have g0 := MG_QN g h0
  obtain ⟨v1, a1, a2, a3⟩ := l_X11_lr2 hF g0 (NtM_QN hn h0) hok (fun w  => L_X11_laysRows_119 F (fun w  => some w) F w 0) 6 (by omega) F (by omega) w0 Fm.rfl' (fun l r hl hl6 _ => by omega)
  have g1 := MG_QN g0 (a2.imp (fun _ _ h => NL_QN h))
  obtain ⟨v2, b1, b2, b3⟩ := l_X11_lr119 hF hR g1.2.1.1 (ftT_b T b R c f) a3 (fun w => some w) 6 0 rfl F (by omega) v1 Fm.rfl' (fun l r hl _ => absurd hl (Nat.not_lt_zero _))
  unfold P_X11_laysRows
  rw [show L_X11_laysRows_2 F _ F w0 5 = _ from a1, show L_X11_laysRows_119 F _ F v1 0 = _ from b1]
  refine ⟨v2, rfl, (h0.tr (a2.imp (fun _ _ h => NL_QN h))).tr (b2.imp (fun _ _ h => by unfold N115 at h; unfold QN; omega)), fun k r hk hr => ⟨?_, b3 k r hk hr⟩⟩
  rw [(b2 114 _ (by unfold N115; omega)).1]
  exact a3 k r hk hr
