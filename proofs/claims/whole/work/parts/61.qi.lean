-- ===== sickness =====
def pwr (b : Int64) : Nat → Int64
  | 0 => 1
  | n + 1 => pwr b n * b
theorem v_X10_power {F : Nat} (hF : 100 ≤ F) (w : Wd) (b : Int64) (n : Nat) (hn : n ≤ 8) : P_X10_power F w b (nI n) = some (pwr b n, w) := by
  unfold P_X10_power
  have key : ∀ m j, j + m = n → foldU (fun _ x => x * b) m j (pwr b j) = pwr b n := by
    intro m
    induction m with
    | zero => intro j hj; obtain rfl : j = n := by omega
              rfl
    | succ m ih => intro j hj; exact ih (j + 1) (by omega)
  obtain ⟨w2, e1, e2⟩ := lpG (fun m w (s : Int64) i => L_X10_power_5 F b (nI n) (fun w x5 => some (x5, w)) m w s i) (fun w s => some (s, w)) (fun _ x => x * b) (fun u _ _ => u = w) n
    (fun m u s hI => by
      show L_X10_power_5 F b (nI n) _ (m + 1) u _ _ = _
      rw [L_X10_power_5, if_pos (Int32.le_refl _)])
    (fun m u s j hj hI => by
      show ∃ w2, L_X10_power_5 F b (nI n) _ (m + 1) u _ _ = L_X10_power_5 F b (nI n) _ m w2 _ _ ∧ _
      rw [L_X10_power_5, if_neg (nI_ge hj (by omega)), lt_v, lt_v, nI_1]
      exact ⟨u, rfl, hI⟩)
    n 0 (by omega) F (by omega) w 1 rfl
  subst e2
  refine (show L_X10_power_5 F b (nI n) _ F w2 1 0 = _ from e1).trans ?_
  rw [show (1 : Int64) = pwr b 0 from rfl, key n 0 (by omega)]
theorem lgc0 (x : Int64) : lg_cmp x 0 = 0 ↔ x = 0 := by
  show (if 0 < x then (1 : Int32) else if x = 0 then 0 else -1) = 0 ↔ _
  by_cases h : 0 < x
  · rw [if_pos h]
    refine ⟨fun q => absurd q (by decide), fun q => ?_⟩
    rw [q] at h
    exact absurd h (by decide)
  · rw [if_neg h]
    by_cases h2 : x = 0
    · rw [if_pos h2]; exact ⟨fun _ => h2, fun _ => rfl⟩
    · rw [if_neg h2]; exact ⟨fun q => absurd q (by decide), fun q => absurd q h2⟩
theorem neZL_t {x : Int64} (h : ¬ x = 0) : neZL x = true := by unfold neZL; rw [decide_eq_false h]; rfl
/-- the class's way to a common divisor, the model's -/
def gC : Nat → Int64 → Int64 → Int64
  | 0, h, _ => h
  | n + 1, h, l => if l = 0 then h else gC n l (lremL h l)
def gM : Nat → Int64 → Int64 → Option Int64
  | 0, _, _ => none
  | n + 1, a, b => if b = 0 then some a else gM n b (lremL a b)
theorem l_X10_cd (F : Nat) (a b : Int64) (w : Wd) : ∀ m j, j + m = 200 → ∀ n, m < n → ∀ h l, L_X10_commonDivisor_9 F a b (fun w x6 => some (x6, w)) n w h l (nI j) = some (gC m h l, w) := by
  intro m
  induction m with
  | zero =>
    intro j hj n hn h l
    obtain ⟨n, rfl⟩ : ∃ q, n = q + 1 := ⟨n - 1, by omega⟩
    rw [L_X10_commonDivisor_9, if_pos (show (200 : Int32) ≤ nI j from nI_le (a := 200) (b := j) (by omega) (by omega))]
    rfl
  | succ m ih =>
    intro j hj n hn h l
    obtain ⟨n, rfl⟩ : ∃ q, n = q + 1 := ⟨n - 1, by omega⟩
    rw [L_X10_commonDivisor_9, if_neg (show ¬ (200 : Int32) ≤ nI j from nI_ge (a := j) (b := 200) (by omega) (by decide))]
    unfold gC
    by_cases hl : l = 0
    · rw [if_pos ((lgc0 l).mpr hl), if_pos hl]
    · rw [if_neg (fun q => hl ((lgc0 l).mp q)), if_neg hl, gd_t (neZL_t hl), lt_v, lt_v, nI_1]
      exact ih (j + 1) (by omega) n (by omega) _ _
theorem v_X10_cd {F : Nat} (hF : 300 ≤ F) (w : Wd) (a b : Int64) : P_X10_commonDivisor F w a b = some (gC 200 a b, w) := l_X10_cd F a b w 200 0 rfl F (by omega) a b
theorem d_common (F : Nat) (w : Wd) : ∀ n a b c, gM n a b = some c → D_common F n w a b = some (c, w) := by
  intro n
  induction n with
  | zero => intro a b c h; cases h
  | succ n ih =>
    intro a b c h
    show B_X11_common F (D_common F n) w a b = _
    unfold B_X11_common
    unfold gM at h
    by_cases hb : b = 0
    · rw [if_pos hb] at h
      cases h
      rw [if_pos ((lgc0 b).mpr hb)]
    · rw [if_neg hb] at h
      rw [if_neg (fun q => hb ((lgc0 b).mp q)), gd_t (neZL_t hb), bnd_r (ih _ _ _ h)]
theorem gcd_all : ∀ a : Nat, a < 9 → ∀ p : Nat, p < 11 → gM 100 (pwr 10 a - pwr (Int32.toInt64 (nI p)) a) (pwr 10 a) = some (gC 200 (pwr 10 a) (pwr 10 a - pwr (Int32.toInt64 (nI p)) a)) ∧ ¬ gC 200 (pwr 10 a) (pwr 10 a - pwr (Int32.toInt64 (nI p)) a) = 0 := by decide +kernel
/-- so many can ring -/
def abN (T : Tw) (b : Bl) : Nat := (bc (ableT T b)).toNatClampNeg
theorem able_N (T : Tw) (b : Bl) : bc (ableT T b) = nI (abN T b) ∧ abN T b ≤ 8 := by
  have e : ableT T b = nI (orN (fun i => decide (abl T b i = bit1 i)) 0 8) := by
    unfold ableT
    refine orR_N 8 0 (by decide) (fun i _ hi => ?_)
    have hb : ¬ bit1 i = 0 := by rw [bit1_N i (by omega)]; exact nI_ne0 (Nat.two_pow_pos i) (by have := pow_256 (j := i) (by omega); omega)
    by_cases h : abl T b i = bit1 i
    · rw [decide_eq_true h]; exact h
    · rw [decide_eq_false h]
      unfold abl at h ⊢
      split
      · rfl
      · rename_i h1
        rw [if_neg h1] at h
        split
        · rfl
        · rename_i h2
          rw [if_neg h2] at h
          exact absurd rfl h
  have hlt := orN_lt (fun i => decide (abl T b i = bit1 i)) 8 0 (by decide)
  unfold abN
  rw [e, bc_pc hlt, nI_clamp (by have := pc_le hlt; omega)]
  exact ⟨rfl, pc_le hlt⟩
def wel (T : Tw) (b : Bl) (x : Int32) : Int64 := pwr 10 (abN T b) - pwr (Int32.toInt64 x) (abN T b)
def qSick (T : Tw) (b : Bl) (x : Int32) : Ans := qR x 0 10 (0, some [wel T b x / gC 200 (pwr 10 (abN T b)) (wel T b x), pwr 10 (abN T b) / gC 200 (pwr 10 (abN T b)) (wel T b x)])
theorem v_X10_sick {F : Nat} (hF : 2000 ≤ F) {w : Wd} (s : St w) (x : Int32) : AskC (P_X10_sick F w x) (qSick (tC w 5) (bC w 23) x) w := by
  unfold P_X10_sick qSick
  refine askC_r (fun h1 h2 => ?_)
  obtain ⟨n, hn1, hn2, rfl⟩ := rng h1 h2 (A := 0) (B := 10)
  obtain ⟨w1, a1, a2⟩ := v_X9_able hF w 5 s.1
  obtain ⟨b1, b2⟩ := able_N (tC w 5) (bC w 23)
  rw [bnd_r a1, bnd_r (v_bc F w1 _), b1, bnd_r (v_X10_power (by omega) w1 10 _ b2), bnd_r (v_X10_power (by omega) w1 _ _ b2), lt_v, bnd_r (v_X10_cd (by omega) w1 _ _)]
  have h0 := (gcd_all (abN (tC w 5) (bC w 23)) (by omega) n (by omega)).2
  rw [if_neg (fun q => h0 ((lgc0 _).mp q)), gd_t (neZL_t h0), gd_t (neZL_t h0)]
  obtain ⟨w3, d1, d2, d3⟩ := v_X10_tell2 F w1 ((pwr 10 (abN (tC w 5) (bC w 23)) - pwr (Int32.toInt64 (nI n)) (abN (tC w 5) (bC w 23))) / gC 200 (pwr 10 (abN (tC w 5) (bC w 23))) (pwr 10 (abN (tC w 5) (bC w 23)) - pwr (Int32.toInt64 (nI n)) (abN (tC w 5) (bC w 23)))) (pwr 10 (abN (tC w 5) (bC w 23)) / gC 200 (pwr 10 (abN (tC w 5) (bC w 23))) (pwr 10 (abN (tC w 5) (bC w 23)) - pwr (Int32.toInt64 (nI n)) (abN (tC w 5) (bC w 23))))
  rw [bnv_r d1]
  exact ask_t (a2.imp (fun _ h => SP_QP (Scr_SP h))) d2 d3
/-- whether it is so likely -/
def rsk (T : Tw) (b : Bl) (v : Int32) (k : Nat) : Bool := decide (lg_cmp ((wel T b (nI k)) * 100) ((Int32.toInt64 v) * (pwr 10 (abN T b))) < 0)
def rkX (T : Tw) (b : Bl) (v : Int32) (k : Nat) (g : Int32) : Sum Int32 Int32 := if rsk T b v k then .inl g else .inr (nI k)
def qRisk (T : Tw) (b : Bl) (x : Int32) : Ans := qR x 0 100 (match foldX (rkX T b x) 11 0 (-2) with
  | .inl g => (g, none)
  | .inr g => (g, none))
theorem v_X10_risk {F : Nat} (hF : 2000 ≤ F) {w : Wd} (s : St w) (x : Int32) : AskC (P_X10_risk F w x) (qRisk (tC w 5) (bC w 23) x) w := by
  unfold P_X10_risk qRisk
  refine askC_r (fun h1 h2 => ?_)
  obtain ⟨w1, a1, a2⟩ := v_X9_able hF w 5 s.1
  obtain ⟨b1, b2⟩ := able_N (tC w 5) (bC w 23)
  rw [bnd_r a1, bnd_r (v_bc F w1 _), b1, bnd_r (v_X10_power (by omega) w1 10 _ b2)]
  rcases lpX (fun m w (g : Int32) k => L_X10_risk_42 F x (nI (abN (tC w1 5) (bC w1 23))) (pwr 10 (abN (tC w1 5) (bC w1 23))) (fun w x14 => some (x14, w)) m w g k) (fun w g => some (g, w)) (fun u g => some (g, u)) (rkX (tC w1 5) (bC w1 23) x) (fun u _ _ => u = w1) (fun u _ => u = w1) 11
    (fun m u g hI => by
      show L_X10_risk_42 F x _ _ _ (m + 1) u _ _ = _
      rw [L_X10_risk_42, if_pos (show (10 : Int32) < nI 11 by decide)])
    (fun m u g k hk hI => by
      subst hI
      show (∃ w2 t, _ ∧ L_X10_risk_42 F x _ _ _ (m + 1) u _ _ = L_X10_risk_42 F x _ _ _ m w2 _ _ ∧ _) ∨ (∃ w2 o, _ ∧ L_X10_risk_42 F x _ _ _ (m + 1) u _ _ = _ ∧ _)
      obtain ⟨-, c2⟩ := able_N (tC u 5) (bC u 23)
      rw [L_X10_risk_42, if_neg (show ¬ (10 : Int32) < nI k from nI_nlt (a := 10) (b := k) (by omega) (by decide)), bnd_r (v_X10_power (by omega) u _ _ c2)]
      unfold rkX rsk wel
      by_cases c : lg_cmp ((pwr 10 (abN (tC u 5) (bC u 23)) - pwr (Int32.toInt64 (nI k)) (abN (tC u 5) (bC u 23))) * 100) ((Int32.toInt64 x) * (pwr 10 (abN (tC u 5) (bC u 23)))) < 0
      · rw [if_pos c, decide_eq_true c]
        exact .inr ⟨u, g, rfl, rfl, rfl⟩
      · rw [if_neg c, decide_eq_false c, lt_v, nI_1]
        exact .inl ⟨u, nI k, rfl, rfl, rfl⟩)
    11 0 (by omega) F (by omega) w1 (-2) rfl with ⟨w2, t, e1, e2, e3⟩ | ⟨w2, o, e1, e2, e3⟩
  all_goals
    have hT : tC w1 5 = tC w 5 := tC_fr Kp_Scr a2 s.1
    have hB : bC w1 23 = bC w 23 := bC_fr a2 (by unfold Scr; omega) (by unfold Scr; omega)
    rw [hT, hB] at e1 e2
    rw [e1, show L_X10_risk_42 F x _ _ _ F w1 (-2) 0 = _ from e2, e3]
    exact ask_n a2 (fun b h => SP_n (Scr_SP h))
-- the model
theorem m_bets {F : Nat} (hF : 2000 ≤ F) {w w0 : Wd} {T : Tw} {b : Bl} {r p N : Nat} (g : MG w0 T b r p N) (h0 : Fm QN w0 w) (x : Int32) : ∃ w2, P_X11_bets F w x = some w2 ∧ Fm QN w0 w2 ∧ gJ w2 88 44 = pwr 10 (abN T b) ∧ gJ w2 88 43 = wel T b x := by
  have f1 : Fm QN w0 (sJ w 88 44 1) := h0.sJ (.inl ⟨rfl, by omega⟩)
  obtain ⟨w1, a1, a2⟩ := m_able hF (MG_QN g f1)
  obtain ⟨b1, b2⟩ := able_N T b
  have f2 : Fm QN w0 w1 := f1.tr (a2.imp (fun _ _ h => Sc_QN h))
  have d1 : gJ w1 88 44 = 1 := by rw [(a2 88 44 (by unfold Sc; omega)).2.1, gJ_sJ, if_pos rfl, if_pos rfl]
  unfold P_X11_bets
  rw [lt_v, bnd_r a1, bnd_r (v_bc F w1 _), b1]
  generalize hA : abN T b = A at *
  have key : ∀ m j, j + m = A → ∀ n, m < n → ∀ u, Fm QN w0 u → gJ u 88 44 = pwr 10 j → ∃ w2, L_X11_bets_16 F x (fun w x9 => lt (sJ w 88 43 ((gJ w 88 44) - x9)) (fun w14 => some w14)) n u (pwr (Int32.toInt64 x) j) (nI m) = some w2 ∧ Fm QN w0 w2 ∧ gJ w2 88 44 = pwr 10 A ∧ gJ w2 88 43 = pwr 10 A - pwr (Int32.toInt64 x) A := by
    intro m
    induction m with
    | zero =>
      intro j hj n hn u hu hd
      obtain ⟨n, rfl⟩ : ∃ q, n = q + 1 := ⟨n - 1, by omega⟩
      obtain rfl : j = A := by omega
      rw [L_X11_bets_16, if_pos (show nI 0 ≤ (0 : Int32) from Int32.le_refl _), lt_v, hd]
      exact ⟨_, rfl, hu.sJ (.inl ⟨rfl, by omega⟩), by rw [gJ_sJ, if_pos rfl, if_neg (by decide)]; exact hd, by rw [gJ_sJ, if_pos rfl, if_pos rfl]⟩
    | succ m ih =>
      intro j hj n hn u hu hd
      obtain ⟨n, rfl⟩ : ∃ q, n = q + 1 := ⟨n - 1, by omega⟩
      rw [L_X11_bets_16, if_neg (nI_nle (by omega) (by omega)), lt_v, lt_v, lt_v, pk_m1, hd]
      exact ih (j + 1) (by omega) n (by omega) _ (hu.sJ (.inl ⟨rfl, by omega⟩)) (by rw [gJ_sJ, if_pos rfl, if_pos rfl]; rfl)
  obtain ⟨w2, e1, e2, e3, e4⟩ := key A 0 (by omega) F (by omega) w1 f2 d1
  refine ⟨w2, e1, e2, e3, ?_⟩
  unfold wel
  rw [hA]
  exact e4
theorem v_X11_sick {F : Nat} (hF : 2000 ≤ F) {w : Wd} {T : Tw} {b : Bl} {r p N : Nat} (g : MG w T b r p N) (x : Int32) : AskM (P_X11_sick F w x) (qSick T b x) w := by
  unfold P_X11_sick qSick
  rw [lt_v, in_r F _ x 0 10]
  refine askM_r fm_t0 (fun h1 h2 => ?_)
  obtain ⟨n, hn1, hn2, rfl⟩ := rng h1 h2 (A := 0) (B := 10)
  obtain ⟨w1, a1, a2, a3, a4⟩ := m_bets hF g fm_t0 (nI n)
  obtain ⟨-, b2⟩ := able_N T b
  obtain ⟨c1, c2⟩ := gcd_all (abN T b) (by omega) n (by omega)
  have hc : P_X11_common F w1 (gJ w1 88 43) (gJ w1 88 44) = some (gC 200 (pwr 10 (abN T b)) (wel T b (nI n)), w1) := by
    rw [a3, a4]
    exact d_common F w1 100 _ _ _ c1
  rw [bnv_r a1, bnd_r hc, lt_v, gd_t (neZL_t (x := gC 200 (pwr 10 (abN T b)) (wel T b (nI n))) c2), gJ_sI, a4]
  simp only [gd_t (neZL_t (x := gC 200 (pwr 10 (abN T b)) (wel T b (nI n))) c2)]
  exact am_2 _ _ (fun w11 => (gJ w11 88 44) / gC 200 (pwr 10 (abN T b)) (wel T b (nI n))) _ (fun w2 f => by show gJ w2 88 44 / _ = _; rw [(f 88 44 (by unfold Tm; omega)).2.1, a3]) (fun w3 f1 f2 => am_t a2 f1 f2)
theorem v_X11_risk {F : Nat} (hF : 2000 ≤ F) {w : Wd} {T : Tw} {b : Bl} {r p N : Nat} (g : MG w T b r p N) (x : Int32) : AskM (P_X11_risk F w x) (qRisk T b x) w := by
  unfold P_X11_risk qRisk
  rw [lt_v, in_r F _ x 0 100]
  refine askM_r fm_t0 (fun h1 h2 => ?_)
  rcases lpX1 (fun m w (g : Int32) k => L_X11_risk_27 F x (fun w x9 => some (x9, w)) m w g 1 k) (fun w g => some (g, w)) (fun u g => some (g, u)) (rkX T b x) (fun u _ _ => Fm QN w u) (fun u _ => Fm QN w u) 11
    (fun m u c hI => by
      show L_X11_risk_27 F x _ (m + 1) u _ _ _ = _
      rw [L_X11_risk_27, if_pos (show (10 : Int32) < nI 11 by decide)])
    (fun m u c k hm hk hI => by
      obtain ⟨m, rfl⟩ : ∃ q, m = q + 1 := ⟨m - 1, by omega⟩
      show (∃ w2 t, _ ∧ L_X11_risk_27 F x _ (m + 1 + 1) u _ _ _ = L_X11_risk_27 F x _ (m + 1) w2 _ _ _ ∧ _) ∨ (∃ w2 o, _ ∧ L_X11_risk_27 F x _ (m + 1 + 1) u _ _ _ = _ ∧ _)
      obtain ⟨u2, d1, d2, d3, d4⟩ := m_bets hF g hI (nI k)
      rw [L_X11_risk_27, if_neg (show ¬ (10 : Int32) < nI k from nI_nlt (a := 10) (b := k) (by omega) (by decide)), if_neg (show ¬ (1 : Int32) = 0 by decide), bnv_r d1, lt_v, lt_v, lt_v, nI_1, d3, d4, Int64.mul_comm 100]
      unfold rkX rsk
      by_cases c1 : lg_cmp ((wel T b (nI k)) * 100) ((Int32.toInt64 x) * (pwr 10 (abN T b))) < 0
      · rw [decide_eq_true c1, if_pos c1, if_pos rfl]
        refine .inr ⟨u2, c, rfl, ?_, d2⟩
        rw [L_X11_risk_27]
        by_cases hk2 : (10 : Int32) < nI (k + 1)
        · rw [if_pos hk2, if_pos rfl]
        · rw [if_neg hk2, if_pos rfl, if_pos rfl]
      · rw [decide_eq_false c1, if_neg c1, if_neg (by decide)]
        exact .inl ⟨u2, nI k, rfl, rfl, d2⟩)
    11 0 (by omega) F (by omega) (sI w 88 0 0) (-2) fm_t0 with ⟨w2, t, e1, e2, e3⟩ | ⟨w2, o, e1, e2, e3⟩
  · rw [e1, show L_X11_risk_27 F x _ F (sI w 88 0 0) (-2) 1 0 = _ from e2]
    exact am_n e3
  · rw [e1, show L_X11_risk_27 F x _ F (sI w 88 0 0) (-2) 1 0 = _ from e2]
    exact am_n e3
-- ===== council and union =====
def stI (onw oth : Int32) (c : Nat) : Int32 × Int32 := foldU (fun o s => let g := if nI o < onw then oth else nI c - nI o; if g ≤ s.1 then s else (g, if nI o < onw then onw else nI o)) (c + 1) 0 (-1, 0)
def stC (v : Nat) : Nat → Int32 × Int32 → Int32 × Int32
  | 0, s => s
  | k + 1, s => stC v k (stI s.1 s.2 (v - k))
def ofM : Nat → Nat → Int32
  | 0, c => nI c
  | t + 1, c => nI c - ofM t (c - 1)
theorem settle_all : ∀ v : Nat, v < 21 → ∀ k : Nat, k < 20 → stC v (k + 1) (0, 0) = (ofM k v, nI v - ofM k v) := by decide +kernel
theorem l_X10_settle60 {F : Nat} (hF : 2000 ≤ F) (w : Wd) (v k : Int32) (x16 : Int32) (onw oth : Int32) (c : Nat) (hc : c ≤ 20) (kk : Wd → Int32 → Int32 → Option (Int32 × Wd)) : L_X10_settle_60 F v k oth x16 (nI c) onw kk F w (-1) 0 0 = kk w (stI onw oth c).1 (stI onw oth c).2 := by
  obtain ⟨w2, e1, e2⟩ := lpG (fun m w (s : Int32 × Int32) i => L_X10_settle_60 F v k oth x16 (nI c) onw kk m w s.1 s.2 i) (fun w s => kk w s.1 s.2) (fun o s => let g := if nI o < onw then oth else nI c - nI o; if g ≤ s.1 then s else (g, if nI o < onw then onw else nI o)) (fun u _ _ => u = w) (c + 1)
    (fun m u s hI => by
      show L_X10_settle_60 F v k oth x16 (nI c) onw kk (m + 1) u _ _ _ = _
      rw [L_X10_settle_60, if_pos (nI_lt (by omega) (by omega))])
    (fun m u s j hj hI => by
      subst hI
      show ∃ w2, L_X10_settle_60 F v k oth x16 (nI c) onw kk (m + 1) u _ _ _ = L_X10_settle_60 F v k oth x16 (nI c) onw kk m w2 _ _ _ ∧ _
      rw [L_X10_settle_60, if_neg (nI_nlt (by omega) (by omega))]
      unfold K_X10_settle_123
      rw [lt_v, lt_v, lt_v, lt_v, nI_1]
      refine ⟨u, ?_, rfl⟩
      show _ = L_X10_settle_60 F v k oth x16 (nI c) onw kk m u (if (if nI j < onw then oth else nI c - nI j) ≤ s.1 then s else (if nI j < onw then oth else nI c - nI j, if nI j < onw then onw else nI j)).1 (if (if nI j < onw then oth else nI c - nI j) ≤ s.1 then s else (if nI j < onw then oth else nI c - nI j, if nI j < onw then onw else nI j)).2 (nI (j + 1))
      by_cases h1 : nI j < onw
      · rw [if_pos h1, if_pos rfl, if_pos rfl, if_pos h1, if_pos h1]
        by_cases h2 : oth ≤ s.1
        · rw [if_pos h2, if_pos h2]
        · rw [if_neg h2, if_neg h2]; rfl
      · rw [if_neg h1, if_neg (show ¬ (1 : Int32) = 0 by decide), if_neg (show ¬ (1 : Int32) = 0 by decide), if_neg h1, if_neg h1]
        by_cases h2 : nI c - nI j ≤ s.1
        · rw [if_pos h2, if_pos h2]
        · rw [if_neg h2, if_neg h2]; rfl)
    (c + 1) 0 (by omega) F (by omega) w (-1, 0) rfl
  subst e2
  exact e1
theorem maxI_sub {a b : Nat} (ha : a < 2 ^ 30) (hb : b < 2 ^ 30) : maxI 0 (nI a - nI b) = nI (a - b) := by
  rcases Nat.lt_or_ge a b with h | h
  · rw [maxI_l (Int32.le_of_lt (pk_sneg hb h)), show a - b = 0 by omega]; rfl
  · rw [pk_sub h]
    unfold maxI
    by_cases h0 : (0 : Int32) < nI (a - b)
    · rw [if_pos h0]
    · rw [if_neg h0]
      have : a - b = 0 := by
        rcases Nat.eq_zero_or_pos (a - b) with q | q
        · exact q
        · exact absurd (nI_lt (a := 0) q (by omega)) h0
      rw [this]; rfl
def qSettle (x y : Int32) : Ans := qR x 0 20 (qR y 1 20 (ofM (y.toNatClampNeg - 1) x.toNatClampNeg, some [i64 (x - ofM (y.toNatClampNeg - 1) x.toNatClampNeg)]))
theorem l_X10_settle33 {F : Nat} (hF : 2000 ≤ F) (w : Wd) (v : Nat) (hv : v ≤ 20) (y : Int32) (kk : Wd → Int32 → Int32 → Option (Int32 × Wd)) : ∀ k, k ≤ 20 → ∀ n, k < n → ∀ s : Int32 × Int32, L_X10_settle_33 F (nI v) y kk n w s.1 s.2 (nI k - 1) = kk w (stC v k s).1 (stC v k s).2 := by
  intro k
  induction k with
  | zero =>
    intro _ n hn s
    obtain ⟨n, rfl⟩ : ∃ q, n = q + 1 := ⟨n - 1, by omega⟩
    rw [L_X10_settle_33, if_pos (by decide)]
    rfl
  | succ k ih =>
    intro hk n hn s
    obtain ⟨n, rfl⟩ : ∃ q, n = q + 1 := ⟨n - 1, by omega⟩
    rw [nI_pred, L_X10_settle_33, if_neg (nI_pos (by omega)), lt_v, maxI_sub (by omega) (by omega), l_X10_settle60 hF w _ _ _ _ _ (v - k) (by omega), lt_v]
    rw [show nI k + (-1) = nI k - 1 from (Int32.sub_eq_add_neg _ _).symm]
    exact ih (by omega) n (by omega) _
theorem askC_q {x a b : Int32} {o : Option (Int32 × Wd)} {q : Ans} {w : Wd} (h : ¬ x < a → x ≤ b → AskC o q w) : AskC (if x < a then some (-1, w) else if b < x then some (-1, w) else o) (qR x a b q) w := by
  unfold qR
  refine askC_if (fun _ => ask_n (p := SP) Fr.rfl' (fun b h => SP_n h)) (fun h1 => ?_)
  by_cases h2 : b < x
  · rw [if_pos h2, if_neg (Int32.not_le.mpr h2)]; exact ask_n (p := SP) Fr.rfl' (fun b h => SP_n h)
  · rw [if_neg h2, if_pos (Int32.not_lt.mp h2)]; exact h h1 (Int32.not_lt.mp h2)
theorem v_X10_settle {F : Nat} (hF : 2000 ≤ F) {w : Wd} (x y : Int32) : AskC (P_X10_settle F w x y) (qSettle x y) w := by
  unfold P_X10_settle qSettle
  refine askC_q (fun h1 h2 => askC_r (fun h3 h4 => ?_))
  obtain ⟨v, hv1, hv2, rfl⟩ := rng h1 h2 (A := 0) (B := 20)
  obtain ⟨k, hk1, hk2, rfl⟩ := rng h3 h4 (A := 1) (B := 20)
  rw [nI_clamp (by omega), nI_clamp (by omega), lt_v]
  have e := l_X10_settle33 hF w v hv2 (nI k) (fun w x11 x12 => bnv (P_X10_tell F w (Int32.toInt64 x12)) (fun w41 => some (x11, w41))) k hk2 F (by omega) (0, 0)
  rw [show L_X10_settle_33 F (nI v) (nI k) _ F w 0 0 (nI k - 1) = _ from e]
  have ea := settle_all v (by omega) (k - 1) (by omega)
  rw [show k - 1 + 1 = k by omega] at ea
  rw [ea]
  obtain ⟨w3, d1, d2, d3⟩ := v_X10_tell F w (Int32.toInt64 (nI v - ofM (k - 1) v))
  rw [bnv_r d1]
  exact ask_t Fr.rfl' d2 d3
theorem d_offers (F : Nat) (w : Wd) : ∀ t c n, t < n → t < 30 → c ≤ 20 → D_offers F n w (nI c) (nI (t + 1)) = some (ofM t c, w) := by
  intro t
  induction t with
  | zero =>
    intro c n hn _ _
    obtain ⟨n, rfl⟩ : ∃ q, n = q + 1 := ⟨n - 1, by omega⟩
    show B_X11_offers F (D_offers F n) w _ _ = _
    unfold B_X11_offers
    rw [if_pos (show nI (0 + 1) = 1 from rfl)]
    rfl
  | succ t ih =>
    intro c n hn ht hc
    obtain ⟨n, rfl⟩ : ∃ q, n = q + 1 := ⟨n - 1, by omega⟩
    show B_X11_offers F (D_offers F n) w _ _ = _
    unfold B_X11_offers
    rw [if_neg (show ¬ nI (t + 1 + 1) = 1 from fun e => by have := (nI_eq (a := t + 1 + 1) (b := 1) (by omega) (by decide)).mp e; omega), nI_pred, show maxI 0 (nI c - 1) = nI (c - 1) from maxI_sub (a := c) (b := 1) (by omega) (by decide), bnd_r (ih (c - 1) n (by omega) (by omega) (by omega))]
    rfl
theorem v_X11_settle {F : Nat} (hF : 2000 ≤ F) {w : Wd} (x y : Int32) : AskM (P_X11_settle F w x y) (qSettle x y) w := by
  unfold P_X11_settle qSettle
  rw [lt_v, in_r F _ x 0 20, in_r F _ y 1 20]
  refine askM_r fm_t0 (fun h1 h2 => askM_r fm_t0 (fun h3 h4 => ?_))
  obtain ⟨v, hv1, hv2, rfl⟩ := rng h1 h2 (A := 0) (B := 20)
  obtain ⟨k, hk1, hk2, rfl⟩ := rng h3 h4 (A := 1) (B := 20)
  rw [nI_clamp (by omega), nI_clamp (by omega)]
  have e := d_offers F (sI w 88 0 0) (k - 1) v 100 (by omega) (by omega) hv2
  rw [show k - 1 + 1 = k by omega] at e
  rw [bnd_r (show P_X11_offers F (sI w 88 0 0) (nI v) (nI k) = _ from e), lt_v]
  exact am_1 fm_t0 _ _ (fun w3 f1 f2 => am_t fm_t0 f1 f2)
