-- ===== questions to the class: an answer, and what is told =====
def QP (b : Nat) : Prop := b = 3 ∨ b = 4 ∨ b = 17 ∨ Scr b ∨ (25 ≤ b ∧ b ≤ 28) ∨ (63 ≤ b ∧ b ≤ 75) ∨ b = 80 ∨ b = 81
def tqC (q : Option (List Int64)) (w w2 : Wd) : Prop := match q with
  | none => (∀ k, gI w2 3 k = gI w 3 k) ∧ (∀ k, gJ w2 4 k = gJ w 4 k)
  | some L => Tl w2 L
abbrev Ans : Type := Int32 × Option (List Int64)
/-- asked in w, it answers so, tells so, and changes nothing of account -/
def AskC (o : Option (Int32 × Wd)) (q : Ans) (w : Wd) : Prop := ∃ w2, o = some (q.1, w2) ∧ Fr QP w w2 ∧ tqC q.2 w w2
theorem SP_QP {b : Nat} (h : SP b) : QP b := by
  unfold SP at h
  unfold QP
  rcases h with h | h
  · exact .inr (.inr (.inr (.inl h)))
  · exact .inr (.inr (.inr (.inr (.inl h))))
theorem ask_n {w w1 : Wd} {v : Int32} {p : Nat → Prop} (h : Fr p w w1) (hp : ∀ b, p b → QP b ∧ b ≠ 3 ∧ b ≠ 4) : AskC (some (v, w1)) (v, none) w := ⟨w1, rfl, h.imp (fun b hb => (hp b hb).1), (h 3 (fun hb => (hp 3 hb).2.1 rfl)).1, (h 4 (fun hb => (hp 4 hb).2.2 rfl)).2.1⟩
theorem SP_n {b : Nat} (h : SP b) : QP b ∧ b ≠ 3 ∧ b ≠ 4 := ⟨SP_QP h, by unfold SP Scr at h; omega, by unfold SP Scr at h; omega⟩
theorem ask_t {w w1 w2 : Wd} {v : Int32} {L : List Int64} (h : Fr QP w w1) (h2 : Fr (fun b => b = 3 ∨ b = 4) w1 w2) (h3 : Tl w2 L) : AskC (some (v, w2)) (v, some L) w := ⟨w2, rfl, h.tr h2 (fun _ h => h) (fun b hb => by unfold QP; omega), h3⟩
def i64 (x : Int32) : Int64 := Int32.toInt64 x
def nr (T : Tw) : Nat := (T 4 0).toNatClampNeg
def np (T : Tw) : Nat := (T 4 1).toNatClampNeg
/-- how many ringers, townspeople there are, is at most eight -/
def okN (w : Wd) : Prop := (∃ r, r ≤ 8 ∧ gI w 6 2 = nI r) ∧ ∃ p, p ≤ 8 ∧ gI w 9 2 = nI p
theorem nr_e {w : Wd} (t : Nat) {r : Nat} (h : r ≤ 8) (e : gI w 6 2 = nI r) : nr (tC w t) = r := by
  show (gI w 6 2).toNatClampNeg = r
  rw [e, nI_clamp (by omega)]
theorem np_e {w : Wd} (t : Nat) {r : Nat} (h : r ≤ 8) (e : gI w 9 2 = nI r) : np (tC w t) = r := by
  show (gI w 9 2).toNatClampNeg = r
  rw [e, nI_clamp (by omega)]
theorem shl_all : ∀ r : Nat, r ≤ 8 → ishlI 1 (nI r) - 1 = nI (2 ^ r - 1) := by decide +kernel
theorem v_X5_all (F : Nat) (w : Wd) (a r : Nat) (h : r ≤ 8) (e : gI w a 2 = nI r) : P_X5_all F w a = some (nI (2 ^ r - 1), w) := by
  unfold P_X5_all
  rw [e, shl_all r h]
theorem pow8 {r : Nat} (h : r ≤ 8) : 1 ≤ 2 ^ r ∧ 2 ^ r ≤ 256 := ⟨Nat.one_le_two_pow, Nat.le_trans (Nat.pow_le_pow_right (by decide) h) (by decide)⟩
/-- standing ground of a question -/
def St (w : Wd) : Prop := okT w 5 ∧ okN w
theorem v_X10_loud {F : Nat} (hF : 2000 ≤ F) {w : Wd} (s : St w) : AskC (P_X10_loud F w) (loudT (tC w 5) (bC w 23) (bC w 23 8), none) w := by
  obtain ⟨w2, e1, e2⟩ := v_X9_volume (F := F) (by omega) w 5 23 s.1 (gI w 23 1)
  unfold P_X10_loud
  rw [bnd_r e1]
  exact ask_n e2 (fun b hb => SP_n (.inl hb))
def qLasts (T : Tw) (b : Bl) : Ans := if (fst0 T (b 13) 999 1 b).1 ≤ 999 then (nI (fst0 T (b 13) 999 1 b).1, some [i64 ((fst0 T (b 13) 999 1 b).2 11 - b 11), i64 ((fst0 T (b 13) 999 1 b).2 14 - b 14)]) else (-2, none)
theorem v_X10_lasts {F : Nat} (hF : 2000 ≤ F) {w : Wd} (s : St w) : AskC (P_X10_lasts F w) (qLasts (tC w 5) (bC w 23)) w := by
  obtain ⟨w1, e1, e2⟩ := v_X10_firstStop hF w w Fr.rfl' 5 s.1
  have hle := fst0_le (tC w 5) (bC w 23 13) 999 1 (bC w 23)
  unfold P_X10_lasts qLasts
  rw [bnd_r e1]
  generalize fst0 (tC w 5) (bC w 23 13) 999 1 (bC w 23) = r at *
  by_cases h : r.1 ≤ 999
  · rw [if_pos h, if_pos (show nI r.1 ≤ 999 from nI_le (a := r.1) (b := 999) h (by decide))]
    have a1 : gI w1 25 4 = r.2 11 := by rw [← e2.2]; rfl
    have a2 : gI w1 25 7 = r.2 14 := by rw [← e2.2]; rfl
    have a3 : ∀ k, gI w1 23 k = gI w 23 k := (e2.1 23 (by unfold SP Scr; omega)).1
    obtain ⟨w2, f1, f2, f3⟩ := v_X10_tell2 F w1 (Int32.toInt64 ((gI w1 25 4) - (gI w1 23 4))) (Int32.toInt64 ((gI w1 25 7) - (gI w1 23 7)))
    rw [bnv_r f1]
    refine ask_t (e2.1.imp (fun b h => SP_QP h)) f2 ?_
    rw [a1, a2, a3, a3] at f3
    exact f3
  · rw [if_neg h, if_neg (show ¬ nI r.1 ≤ 999 from nI_ge (a := 999) (b := r.1) (by omega) (by omega))]
    exact ask_n e2.1 (fun b h => SP_n h)
def qHush (T : Tw) (b : Bl) : Ans := if (rgo T 999 b).1 = 999 then (-2, none) else (nI (rgo T 999 b).1, some [i64 ((rgo T 999 b).2 12)])
theorem v_X10_hush {F : Nat} (hF : 2000 ≤ F) {w : Wd} (s : St w) : AskC (P_X10_hush F w) (qHush (tC w 5) (bC w 23)) w := by
  obtain ⟨w0, e0, e1, -⟩ := sim_start (F := F) (by omega) (w := w) (w1 := w) Fr.rfl'
  obtain ⟨w1, e2, e3, -⟩ := sim_rungOn hF 5 s.1 e1 999 (by omega)
  have hle := rgo_le (tC w 5) 999 (bC w 23)
  unfold P_X10_hush qHush
  rw [bnv_r e0, bnd_r (show P_X9_rungOn F w0 5 25 999 = _ from e2)]
  generalize rgo (tC w 5) 999 (bC w 23) = r at *
  by_cases h : r.1 = 999
  · rw [if_pos h, if_pos (show nI r.1 = 999 by rw [h]; rfl)]
    exact ask_n e3.1 (fun b h => SP_n h)
  · rw [if_neg h, if_neg (show ¬ nI r.1 = 999 from fun e => h ((nI_eq (a := r.1) (b := 999) (by omega) (by decide)).mp e))]
    have a1 : gI w1 25 5 = r.2 12 := by rw [← e3.2]; rfl
    obtain ⟨w2, f1, f2, f3⟩ := v_X10_tell F w1 (Int32.toInt64 (gI w1 25 5))
    rw [bnv_r f1]
    refine ask_t (e3.1.imp (fun b h => SP_QP h)) f2 ?_
    rw [a1] at f3
    exact f3
/-- for how many of so many minutes these ring alone -/
def alone (T : Tw) (b : Bl) (s : Int32) (n : Nat) : Nat := (rgo T n (setR b s)).1
theorem v_X10_ringsAlone {F : Nat} (hF : 2000 ≤ F) {w w0 : Wd} (s : okT w 5) (h0 : Fr SP w w0) (they : Int32) (N : Nat) (hN : N ≤ 999) : ∃ w2, P_X10_ringsAlone F w0 they (nI N) = some (nI (alone (tC w 5) (bC w 23) they N), w2) ∧ Fr SP w w2 := by
  obtain ⟨w1, e0, e1, -⟩ := sim_start (F := F) (by omega) h0
  obtain ⟨w2, e2, e3, -⟩ := sim_rungOn hF 5 s (sim_rope e1 they) N hN
  unfold P_X10_ringsAlone
  rw [bnv_r e0, lt_v, bnd_r e2]
  exact ⟨w2, rfl, e3.1⟩
/-- of those of a size the cheapest that rings so long -/
def cht (T : Tw) (b : Bl) (size n : Nat) : Nat → Nat → Int32 → Int32
  | 0, _, x => x
  | m + 1, j, x => cht T b size n m (j + 1) (if bc (nI j) = nI size ∧ (x = 0 ∨ feesT T (nI j) < feesT T x) ∧ alone T b (nI j) n = n then nI j else x)
theorem fees_fr {w w1 : Wd} (h : Fr SP w w1) (s : Int32) : sumR (fun i => bt s i * rol w1 6 8 i) 0 8 = feesT (tC w 5) s := sumR_congr 8 0 (fun i _ _ => by
  show _ = bt s i * rol w 6 8 i
  rw [rol_fr Kp_SP h (by unfold Scr; omega) (by omega) (by unfold Scr; omega) (by omega)])
theorem l_X10_cheapestTeam {F : Nat} (hF : 2000 ≤ F) (w : Wd) (s : St w) (size n : Nat) (hn : n ≤ 999) (kk : Wd → Int32 → Option (Int32 × Wd)) (r : Nat) (hr : r ≤ 8) (er : gI w 6 2 = nI r) : ∀ m j, j + m = 2 ^ r → ∀ f, m < f → ∀ w1 x, Fr SP w w1 →
    ∃ w2, L_X10_cheapestTeam_5 F (nI size) (nI n) kk f w1 x (nI j) = kk w2 (cht (tC w 5) (bC w 23) size n m j x) ∧ Fr SP w w2 := by
  have hp := pow8 hr
  intro m
  induction m with
  | zero =>
    intro j hj f hf w1 x h1
    obtain ⟨f, rfl⟩ : ∃ q, f = q + 1 := ⟨f - 1, by omega⟩
    have e6 : gI w1 6 2 = nI r := by rw [(h1 6 (by unfold SP Scr; omega)).1]; exact er
    rw [L_X10_cheapestTeam_5, bnd_r (v_X5_all F w1 6 r hr e6), if_pos (nI_lt (by omega) (by omega))]
    exact ⟨w1, rfl, h1⟩
  | succ m ih =>
    intro j hj f hf w1 x h1
    obtain ⟨f, rfl⟩ : ∃ q, f = q + 1 := ⟨f - 1, by omega⟩
    have e6 : gI w1 6 2 = nI r := by rw [(h1 6 (by unfold SP Scr; omega)).1]; exact er
    have go : ∀ (u : Wd) (y : Int32), Fr SP w u → y = (if bc (nI j) = nI size ∧ (x = 0 ∨ feesT (tC w 5) (nI j) < feesT (tC w 5) x) ∧ alone (tC w 5) (bC w 23) (nI j) n = n then nI j else x) →
        ∃ w2, K_X10_cheapestTeam_85 F (nI size) (nI n) kk (L_X10_cheapestTeam_5 F (nI size) (nI n) kk f) u y (nI j) = kk w2 (cht (tC w 5) (bC w 23) size n (m + 1) j x) ∧ Fr SP w w2 := by
      intro u y hu hy
      show ∃ w2, L_X10_cheapestTeam_5 F (nI size) (nI n) kk f u y (nI j + 1) = kk w2 (cht (tC w 5) (bC w 23) size n m (j + 1) _) ∧ _
      rw [nI_1, ← hy]
      exact ih (j + 1) (by omega) f (by omega) u y hu
    have tail : ∀ (u : Wd), Fr SP w u → bc (nI j) = nI size → (x = 0 ∨ feesT (tC w 5) (nI j) < feesT (tC w 5) x) →
        ∃ w2, bnd (P_X10_ringsAlone F u (nI j) (nI n)) (fun x23 w22 => (if x23 = nI n then K_X10_cheapestTeam_85 F (nI size) (nI n) kk (L_X10_cheapestTeam_5 F (nI size) (nI n) kk f) w22 (nI j) (nI j) else K_X10_cheapestTeam_85 F (nI size) (nI n) kk (L_X10_cheapestTeam_5 F (nI size) (nI n) kk f) w22 x (nI j))) = kk w2 (cht (tC w 5) (bC w 23) size n (m + 1) j x) ∧ Fr SP w w2 := by
      intro u hu hb hx
      obtain ⟨w2, f1, f2⟩ := v_X10_ringsAlone hF s.1 hu (nI j) n hn
      have hle : alone (tC w 5) (bC w 23) (nI j) n ≤ n := rgo_le _ _ _
      rw [bnd_r f1]
      by_cases ha : alone (tC w 5) (bC w 23) (nI j) n = n
      · rw [if_pos (by rw [ha])]
        exact go w2 _ f2 (by rw [if_pos ⟨hb, hx, ha⟩])
      · rw [if_neg (fun e => ha ((nI_eq (by omega) (by omega)).mp e))]
        exact go w2 _ f2 (by rw [if_neg (fun h => ha h.2.2)])
    rw [L_X10_cheapestTeam_5, bnd_r (v_X5_all F w1 6 r hr e6), if_neg (nI_nlt (by omega) (by omega))]
    by_cases hx : x = 0
    · rw [if_pos hx]
      unfold K_X10_cheapestTeam_50 K_X10_cheapestTeam_55
      rw [bnd_r (v_bc F w1 _)]
      by_cases hb : bc (nI j) = nI size
      · rw [if_pos hb, if_neg (show ¬ (1 : Int32) = 0 by decide)]
        exact tail w1 h1 hb (.inl hx)
      · rw [if_neg hb]
        exact go w1 _ h1 (by rw [if_neg (fun h => hb h.1)])
    · rw [if_neg hx, bnd_r (v_X5_secondsOf (by omega) w1 6 _), bnd_r (v_X5_secondsOf (by omega) w1 6 _), lt_v, bnd_r (v_bc F w1 _), fees_fr h1, fees_fr h1]
      by_cases hb : bc (nI j) = nI size
      · rw [if_pos hb]
        by_cases hc : feesT (tC w 5) x ≤ feesT (tC w 5) (nI j)
        · rw [if_pos hc, if_pos rfl]
          exact go w1 _ h1 (by rw [if_neg (fun h => by rcases h.2.1 with h | h; exact hx h; exact absurd hc (Int32.not_le.mpr h))])
        · rw [if_neg hc, if_neg (show ¬ (1 : Int32) = 0 by decide)]
          exact tail w1 h1 hb (.inr (Int32.not_le.mp hc))
      · rw [if_neg hb]
        exact go w1 _ h1 (by rw [if_neg (fun h => hb h.1)])
def teamT (T : Tw) (b : Bl) (size n : Nat) : Int32 := cht T b size n (2 ^ nr T - 1) 1 0
def qTeam (T : Tw) (b : Bl) (x : Int32) : Ans := if x < 1 then (-1, none) else if x ≤ 120 then
    (if teamT T b 1 x.toNatClampNeg = 0 then if teamT T b 2 x.toNatClampNeg = 0 then if teamT T b 3 x.toNatClampNeg = 0 then (-2, none)
      else (3, some [i64 (teamT T b 3 x.toNatClampNeg), i64 (feesT T (teamT T b 3 x.toNatClampNeg))])
      else (2, some [i64 (teamT T b 2 x.toNatClampNeg), i64 (feesT T (teamT T b 2 x.toNatClampNeg))])
      else (1, some [i64 (teamT T b 1 x.toNatClampNeg), i64 (feesT T (teamT T b 1 x.toNatClampNeg))]))
  else (-1, none)
theorem v_X10_cheapestTeam {F : Nat} (hF : 2000 ≤ F) {w w1 : Wd} (s : St w) (size n : Nat) (hn : n ≤ 999) (h1 : Fr SP w w1) : ∃ w2, P_X10_cheapestTeam F w1 (nI size) (nI n) = some (teamT (tC w 5) (bC w 23) size n, w2) ∧ Fr SP w w2 := by
  obtain ⟨⟨r, hr, er⟩, -⟩ := s.2
  have hp := pow8 hr
  obtain ⟨w2, e1, e2⟩ := l_X10_cheapestTeam hF w s size n hn (fun w x5 => some (x5, w)) r hr er (2 ^ r - 1) 1 (by omega) F (by omega) w1 0 h1
  refine ⟨w2, e1.trans ?_, e2⟩
  unfold teamT
  rw [nr_e 5 hr er]
theorem nI_lo {x : Int32} (h : ¬ x < 1) : ¬ x < 0 := by
  rw [Int32.lt_iff_toInt_lt] at h ⊢
  have e1 : (1 : Int32).toInt = 1 := by decide
  have e2 : (0 : Int32).toInt = 0 := by decide
  omega
theorem v_X10_team {F : Nat} (hF : 2000 ≤ F) {w : Wd} (s : St w) (x : Int32) : AskC (P_X10_team F w x) (qTeam (tC w 5) (bC w 23) x) w := by
  unfold P_X10_team qTeam
  by_cases h1 : x < 1
  · rw [if_pos h1, if_pos h1]; exact ask_n (p := SP) Fr.rfl' (fun b h => SP_n h)
  rw [if_neg h1, if_neg h1]
  by_cases h2 : x ≤ 120
  · rw [if_pos h2, if_pos h2]
    obtain ⟨n, hn, rfl⟩ := nI_of2 (M := 120) (n := 120) (by decide) (nI_lo h1) h2
    rw [nI_clamp (by omega)]
    have step : ∀ (k f : Nat) (u : Wd) (qz : Ans), k ≤ 3 → Fr SP w u →
        (∀ u2, Fr SP w u2 → AskC (L_X10_team_15 F (nI n) (fun w  => some ((-2), w)) f u2 (nI (k + 1))) qz w) →
        AskC (L_X10_team_15 F (nI n) (fun w  => some ((-2), w)) (f + 1) u (nI k)) (if teamT (tC w 5) (bC w 23) k n = 0 then qz else (nI k, some [i64 (teamT (tC w 5) (bC w 23) k n), i64 (feesT (tC w 5) (teamT (tC w 5) (bC w 23) k n))])) w := by
      intro k f u qz hk hu hz
      obtain ⟨w2, e1, e2⟩ := v_X10_cheapestTeam hF s k n (by omega) hu
      rw [L_X10_team_15, if_neg (show ¬ (3 : Int32) < nI k from nI_nlt (a := 3) (b := k) (by omega) (by decide)), bnd_r e1]
      by_cases h0 : teamT (tC w 5) (bC w 23) k n = 0
      · rw [if_pos h0, if_pos h0, lt_v, nI_1]
        exact hz w2 e2
      · rw [if_neg h0, if_neg h0, bnd_r (v_X5_secondsOf (by omega) w2 6 _), fees_fr e2]
        obtain ⟨w3, f1, f2, f3⟩ := v_X10_tell2 F w2 (Int32.toInt64 (teamT (tC w 5) (bC w 23) k n)) (Int32.toInt64 (feesT (tC w 5) (teamT (tC w 5) (bC w 23) k n)))
        rw [bnv_r f1]
        exact ask_t (e2.imp (fun b h => SP_QP h)) f2 f3
    have main : ∀ f, 4 ≤ f → AskC (L_X10_team_15 F (nI n) (fun w  => some ((-2), w)) f w (nI 1)) (if teamT (tC w 5) (bC w 23) 1 n = 0 then if teamT (tC w 5) (bC w 23) 2 n = 0 then if teamT (tC w 5) (bC w 23) 3 n = 0 then (-2, none)
      else (3, some [i64 (teamT (tC w 5) (bC w 23) 3 n), i64 (feesT (tC w 5) (teamT (tC w 5) (bC w 23) 3 n))])
      else (2, some [i64 (teamT (tC w 5) (bC w 23) 2 n), i64 (feesT (tC w 5) (teamT (tC w 5) (bC w 23) 2 n))])
      else (1, some [i64 (teamT (tC w 5) (bC w 23) 1 n), i64 (feesT (tC w 5) (teamT (tC w 5) (bC w 23) 1 n))])) w := by
      intro f hf
      obtain ⟨f, rfl⟩ : ∃ g, f = g + 4 := ⟨f - 4, by omega⟩
      refine step 1 (f + 3) w _ (by omega) Fr.rfl' (fun u hu => step 2 (f + 2) u _ (by omega) hu (fun u hu => step 3 (f + 1) u _ (by omega) hu (fun u hu => ?_)))
      rw [L_X10_team_15, if_pos (show (3 : Int32) < nI (3 + 1) by decide)]
      exact ask_n hu (fun b h => SP_n h)
    exact main F (by omega)
  · rw [if_neg h2, if_neg h2]; exact ask_n (p := SP) Fr.rfl' (fun b h => SP_n h)
