-- ===== rota, cheapest, longest =====
def u0 : Nat → Nat := fun _ => 0
def tlz (z : Nat → Nat) : Nat → List Int64
  | 0 => []
  | j + 1 => tlz z j ++ [i64 (nI (z j))]
theorem tlz_len (z : Nat → Nat) : ∀ n, (tlz z n).length = n := by
  intro n
  induction n with
  | zero => rfl
  | succ n ih => show (tlz z n ++ [_]).length = _; rw [List.length_append, ih]; rfl
/-- what the class's search finds -/
def srch (T : Tw) (r : Nat) (b : Bl) (n k aim : Nat) : Sum (Nat → Nat) Rb := foldX (cq T r k aim n 0 u0 b) r 0 none
def srv (x : Sum (Nat → Nat) Rb) : Int32 := match x with
  | .inl _ => 0
  | .inr o => fnd o
theorem v_X6_search {F : Nat} (hF : 10000 ≤ F) {w w0 : Wd} (okt : okT w 5) {T : Tw} (hTe : tC w 5 = T) {r p N : Nat} (okw : okTw T r p N) (n : Nat) (h1 : 1 ≤ n) (hn : n ≤ 4) (k aim : Nat) (hk : k ≤ 20) (haim : aim ≤ 2) (h0 : Fr RP w w0) : ∃ v2, P_X6_search F w0 5 23 (nI n) (nI k) (nI aim) = some (srv (srch T r (bC w 23) n k aim), v2) ∧ Fr RP w v2 ∧ (match srch T r (bC w 23) n k aim with
    | .inl z => ∀ j, j < n → gI v2 65 j = nI (z j)
    | .inr o => okRb o ∧ bst v2 n o) := by
  have hr := okw.1
  obtain ⟨w1, a1, a2, a3⟩ := v_X1_copy (F := F) (by omega) w0 66 23 (by decide) (by decide) (by decide)
  have f1 : Fr RP w w1 := h0.tr a2 (fun _ h => h) (fun b h => .inr (.inr (.inl (by omega))))
  have f2 : Fr RP w (sI w1 64 0 (-1)) := f1.tr (Fr.ofI.imp (fun b h => .inl h)) (fun _ h => h) (fun _ h => h)
  have hb23 : bC w0 23 = bC w 23 := bC_fr h0 (by unfold RP Scr; omega) (by unfold RP Scr; omega)
  unfold P_X6_search
  rw [gd_t (show inB 0 5 = true from rfl), lt_v, gd_t (show isX1 (66 + 2 * 0) = true from rfl)]
  rw [bnv_r (show P_X1_copy F w0 (66 + 2 * 0) 23 = _ from a1), gd_t (show inB 0 4 = true from rfl), lt_v]
  obtain ⟨n, rfl⟩ : ∃ q, n = q + 1 := ⟨n - 1, by omega⟩
  obtain ⟨t, ht, v2, g1, g2⟩ := l_X6_search (F := F) (by omega) okt hTe okw (n + 1) hn k aim hk haim (fun w x14 => some (x14, w)) n 0 (by omega) r 0 (by omega) (sI w1 64 0 (-1)) u0 (bC w 23) none f2 (by rw [gIs]; decide) (fun j hj => absurd hj (Nat.not_lt_zero _)) (by
    rw [bC_fr (p := fun b => b = 64) Fr.ofI (by omega) (by omega)]
    show bC w1 66 = _
    rw [a3, hb23]) (fun z hz => by cases hz) (fun z hz => by cases hz)
  have hSS : SS n ≤ 657 := by
    have h : ∀ m : Nat, m ≤ 3 → SS m ≤ 657 := by decide
    exact h n (by omega)
  have ht2 : t ≤ 5266 := by
    have := Nat.mul_le_mul hr (show 1 + SS n ≤ 658 by omega)
    omega
  obtain ⟨M, hM⟩ : ∃ M, F = (M + 1) + t := ⟨F - t - 1, by omega⟩
  show ∃ v2, L_X6_search_26 F 5 23 (nI (n + 1)) (nI k) (nI aim) _ F (sI w1 64 0 (-1)) (-1) 0 0 = some (srv (foldX (cq T r k aim (n + 1) 0 u0 (bC w 23)) r 0 none), v2) ∧ Fr RP w v2 ∧ (match foldX (cq T r k aim (n + 1) 0 u0 (bC w 23)) r 0 none with
    | .inl z => ∀ j, j < n + 1 → gI v2 65 j = nI (z j)
    | .inr o => okRb o ∧ bst v2 (n + 1) o)
  cases hres : foldX (cq T r k aim (n + 1) 0 u0 (bC w 23)) r 0 none with
  | inl z =>
    rw [hres] at g2
    refine ⟨v2, ?_, g1, g2.2⟩
    have := g2.1 (M + 1) 0 (by omega)
    rw [← hM] at this
    exact this
  | inr o =>
    rw [hres] at g2
    obtain ⟨g3, g4, g5, g6, g7⟩ := g2
    refine ⟨v2, ?_, g1, g6, g7⟩
    have := g3 (M + 1) 0 (by omega)
    rw [← hM] at this
    refine (show L_X6_search_26 F 5 23 (nI (n + 1)) (nI k) (nI aim) _ F (sI w1 64 0 (-1)) (-1) 0 0 = _ from this).trans ?_
    rw [L_X6_search_26, if_neg (show ¬ (1000000 : Int32) ≤ nI (0 + t) from nI_ge (a := 0 + t) (b := 1000000) (by omega) (by decide)), if_pos (by decide)]
    rfl
theorem v_X10_tellRota {F : Nat} (hF : 100 ≤ F) (w : Wd) (n : Nat) (hn : n ≤ 4) (z : Nat → Nat) (hz : ∀ j, j < n → gI w 65 j = nI (z j)) : ∃ w2, P_X10_tellRota F w (nI n) = some w2 ∧ Fr (fun b => b = 3 ∨ b = 4) w w2 ∧ Tl w2 (tlz z n) := by
  obtain ⟨w1, a1, a2, a3⟩ := v_X7_clear F w
  have key : ∀ m j, j + m = n → ∀ f, m < f → ∀ u, Fr (fun b => b = 3 ∨ b = 4) w u → Tl u (tlz z j) → ∃ w2, L_X10_tellRota_9 F (nI n) (fun w => some w) f u (nI j) = some w2 ∧ Fr (fun b => b = 3 ∨ b = 4) w w2 ∧ Tl w2 (tlz z n) := by
    intro m
    induction m with
    | zero =>
      intro j hj f hf u h1 h2
      obtain ⟨f, rfl⟩ : ∃ q, f = q + 1 := ⟨f - 1, by omega⟩
      obtain rfl : j = n := by omega
      rw [L_X10_tellRota_9, if_pos (Int32.le_refl _)]
      exact ⟨u, rfl, h1, h2⟩
    | succ m ih =>
      intro j hj f hf u h1 h2
      obtain ⟨f, rfl⟩ : ∃ q, f = q + 1 := ⟨f - 1, by omega⟩
      have hbest : P_X6_bestIn F u (nI j) = some (nI (z j), u) := by
        unfold P_X6_bestIn
        rw [if_neg (nI_pos (by omega)), if_neg (show ¬ (4 : Int32) ≤ nI j from nI_ge (a := j) (b := 4) (by omega) (by decide)), gd_t (inB_n (show j < 4 by omega) (by omega)), nI_clamp (by omega), (h1 65 (by omega)).1, hz j (by omega)]
      obtain ⟨u2, d1, d2, d3⟩ := v_X7_add F u (tlz z j) h2 (by rw [tlz_len]; omega) (i64 (nI (z j)))
      rw [L_X10_tellRota_9, if_neg (nI_ge (by omega) (by omega)), bnd_r hbest, bnv_r (show P_X7_add F u (Int32.toInt64 (nI (z j))) = _ from d1), lt_v, nI_1]
      exact ih (j + 1) (by omega) f (by omega) u2 (h1.tr d2 (fun _ h => h) (fun _ h => h)) d3
  obtain ⟨w2, e1, e2, e3⟩ := key n 0 (by omega) F (by omega) w1 a2 a3
  unfold P_X10_tellRota
  rw [bnv_r a1]
  exact ⟨w2, e1, e2, e3⟩
theorem Q34_ask {w w1 w2 : Wd} {v : Int32} {L : List Int64} (h : Fr QP w w1) (h2 : Fr (fun b => b = 3 ∨ b = 4) w1 w2) (h3 : Tl w2 L) : AskC (some (v, w2)) (v, some L) w := ask_t h h2 h3
theorem RP_n {b : Nat} (h : RP b) : QP b ∧ b ≠ 3 ∧ b ≠ 4 := ⟨RP_QP h, by unfold RP Scr at h; omega, by unfold RP Scr at h; omega⟩
def qBest (T : Tw) (b : Bl) (r aim : Nat) (x y : Int32) : Ans := qR x 1 4 (qR y 1 20 (match mq T r y.toNatClampNeg aim b x.toNatClampNeg x.toNatClampNeg 0 u0 none with
  | none => (-2, none)
  | some z => (nI z.1, some (tlz z.2 x.toNatClampNeg))))
theorem srch_mq {T : Tw} {r : Nat} (hr : r ≤ 8) {b : Bl} {n k aim : Nat} (h1 : 1 ≤ n) (hn : n ≤ 4) (hk : k ≤ 20) (haim : aim ≠ 0) : srch T r b n k aim = .inr (mq T r k aim b n n 0 u0 none) := by
  obtain ⟨n, rfl⟩ : ∃ q, n = q + 1 := ⟨n - 1, by omega⟩
  unfold srch
  exact foldX_inr r 0 none (fun q s _ h2 => cq_mq hr hk haim hn n 0 u0 q s (by omega) (fun j hj => absurd hj (Nat.not_lt_zero _)) (by omega) (fun j hj => absurd hj (Nat.not_lt_zero _)))
theorem srch_aq {T : Tw} {r : Nat} {b : Bl} {n k : Nat} (h1 : 1 ≤ n) (hn : n ≤ 4) (hk : k ≤ 20) : srch T r b n k 0 = lift (aq T r k b n n 0 u0) := by
  obtain ⟨n, rfl⟩ : ∃ q, n = q + 1 := ⟨n - 1, by omega⟩
  unfold srch
  exact foldX_lift _ _ r 0 (fun q _ h2 => cq_aq hk hn n 0 u0 q (by omega) (fun j hj => absurd hj (Nat.not_lt_zero _)))
theorem v_X10_bestRota {F : Nat} (hF : 10000 ≤ F) {w : Wd} (s : St w) {r p N : Nat} (okw : okTw (tC w 5) r p N) (aim : Nat) (ha : aim = 1 ∨ aim = 2) (x y : Int32) : AskC (P_X10_bestRota F w x y (nI aim)) (qBest (tC w 5) (bC w 23) r aim x y) w := by
  unfold P_X10_bestRota qBest
  refine askC_q (fun h1 h2 => askC_r (fun h3 h4 => ?_))
  obtain ⟨n, hn1, hn2, rfl⟩ := rng h1 h2 (A := 1) (B := 4)
  obtain ⟨k, hk1, hk2, rfl⟩ := rng h3 h4 (A := 1) (B := 20)
  rw [nI_clamp (by omega), nI_clamp (by omega)]
  obtain ⟨v2, g1, g2, g3⟩ := v_X6_search hF s.1 rfl okw n hn1 hn2 k aim hk2 (by omega) Fr.rfl'
  rw [srch_mq okw.1 hn1 hn2 hk2 (by omega)] at g1 g3
  rw [bnd_r g1]
  show AskC (if (0 : Int32) ≤ fnd (mq (tC w 5) r k aim (bC w 23) n n 0 u0 none) then _ else _) _ w
  cases hm : mq (tC w 5) r k aim (bC w 23) n n 0 u0 none with
  | none =>
    rw [if_neg (show ¬ (0 : Int32) ≤ fnd none by decide)]
    exact ask_n g2 (fun b h => RP_n h)
  | some z =>
    rw [hm] at g3
    obtain ⟨g4, g5⟩ := g3
    have hz := g4 z rfl
    rw [if_pos (show (0 : Int32) ≤ fnd (some z) from nI_pos' (by omega))]
    obtain ⟨v3, d1, d2, d3⟩ := v_X10_tellRota (F := F) (by omega) v2 n hn2 z.2 (g5 z rfl)
    rw [bnv_r d1]
    exact ask_t (g2.imp (fun b h => RP_QP h)) d2 d3
theorem v_X10_rota {F : Nat} (hF : 10000 ≤ F) {w : Wd} (s : St w) {r p N : Nat} (okw : okTw (tC w 5) r p N) (x y : Int32) : AskC (P_X10_rota F w x y) (qBest (tC w 5) (bC w 23) r 1 x y) w := by
  obtain ⟨w2, h1, h2, h3⟩ := v_X10_bestRota hF s okw 1 (.inl rfl) x y
  unfold P_X10_rota
  rw [bnd_r (show P_X10_bestRota F w x y 1 = _ from h1)]
  exact ⟨w2, rfl, h2, h3⟩
theorem v_X10_cheapest {F : Nat} (hF : 10000 ≤ F) {w : Wd} (s : St w) {r p N : Nat} (okw : okTw (tC w 5) r p N) (x y : Int32) : AskC (P_X10_cheapest F w x y) (qBest (tC w 5) (bC w 23) r 2 x y) w := by
  obtain ⟨w2, h1, h2, h3⟩ := v_X10_bestRota hF s okw 2 (.inr rfl) x y
  unfold P_X10_cheapest
  rw [bnd_r (show P_X10_bestRota F w x y 2 = _ from h1)]
  exact ⟨w2, rfl, h2, h3⟩
/-- the greatest that goes -/
def lnX (T : Tw) (b : Bl) (r n : Nat) (k : Nat) (_ : Unit) : Sum (Nat × (Nat → Nat)) Unit := match aq T r k b n n 0 u0 with
  | .inl z => .inl (k, z)
  | .inr _ => .inr ()
def qLongest (T : Tw) (b : Bl) (r : Nat) (x : Int32) : Ans := qR x 1 3 (match foldD (lnX T b r x.toNatClampNeg) 20 () with
  | .inl o => (nI o.1, some (tlz o.2 x.toNatClampNeg))
  | .inr _ => (-2, none))
theorem v_X10_longest {F : Nat} (hF : 10000 ≤ F) {w : Wd} (s : St w) {r p N : Nat} (okw : okTw (tC w 5) r p N) (x : Int32) : AskC (P_X10_longest F w x) (qLongest (tC w 5) (bC w 23) r x) w := by
  unfold P_X10_longest qLongest
  refine askC_r (fun h1 h2 => ?_)
  obtain ⟨n, hn1, hn2, rfl⟩ := rng h1 h2 (A := 1) (B := 3)
  rw [nI_clamp (by omega)]
  rcases lpD (fun m w (_ : Unit) k => L_X10_longest_15 F (nI n) (fun w  => some ((-2), w)) m w k) (fun w _ => some ((-2), w)) (fun u (o : Nat × (Nat → Nat)) => bnv (P_X10_tellRota F u (nI n)) (fun w10 => some (nI o.1, w10))) (lnX (tC w 5) (bC w 23) r n) (fun u _ k => Fr RP w u ∧ k ≤ 20) (fun u o => Fr RP w u ∧ ∀ j, j < n → gI u 65 j = nI (o.2 j))
    (fun m u b hI => by
      show L_X10_longest_15 F (nI n) _ (m + 1) u _ = _
      rw [L_X10_longest_15, if_pos (by decide)])
    (fun m u b k _ hI => by
      obtain ⟨hI1, hI2⟩ := hI
      show (∃ w2 t, _ ∧ L_X10_longest_15 F (nI n) _ (m + 1) u _ = L_X10_longest_15 F (nI n) _ m w2 _ ∧ _) ∨ (∃ w2 o, _ ∧ L_X10_longest_15 F (nI n) _ (m + 1) u _ = _ ∧ _)
      obtain ⟨v2, g1, g2, g3⟩ := v_X6_search hF s.1 rfl okw n hn1 (by omega) (k + 1) 0 hI2 (by omega) hI1
      rw [srch_aq hn1 (by omega) hI2] at g1 g3
      rw [L_X10_longest_15, if_neg (show ¬ nI (k + 1) < 1 from nI_nlt (a := k + 1) (b := 1) (by omega) (by omega)), bnd_r (show P_X6_search F u 5 23 (nI n) (nI (k + 1)) 0 = _ from g1)]
      unfold lnX
      cases hq : aq (tC w 5) r (k + 1) (bC w 23) n n 0 u0 with
      | inl z =>
        rw [hq] at g3
        right
        refine ⟨v2, (k + 1, z), rfl, ?_, g2, g3⟩
        rw [if_neg (show ¬ srv (lift (.inl z)) < 0 from (by decide : ¬ (0 : Int32) < 0))]
      | inr t =>
        left
        refine ⟨v2, (), rfl, ?_, g2, by omega⟩
        rw [if_pos (show srv (lift (.inr t)) < 0 from (by decide : (-1 : Int32) < 0)), lt_v, pk_m1])
    20 F (by omega) w () ⟨Fr.rfl', by omega⟩ with ⟨w2, t, e1, e2, e3⟩ | ⟨w2, o, e1, e2, e3, e4⟩
  · rw [e1, show L_X10_longest_15 F (nI n) _ F w 20 = _ from e2]
    exact ask_n e3.1 (fun b h => RP_n h)
  · rw [e1, show L_X10_longest_15 F (nI n) _ F w 20 = _ from e2]
    obtain ⟨v3, d1, d2, d3⟩ := v_X10_tellRota (F := F) (by omega) w2 n (by omega) o.2 e4
    rw [bnv_r d1]
    exact ask_t (e3.imp (fun b h => RP_QP h)) d2 d3
-- the model
theorem m_cost {F : Nat} (hF : 100 ≤ F) {w : Wd} {T : Tw} {r p N : Nat} (ok : okTw T r p N) (h : MT w T r p N) (n : Nat) (hn : n ≤ 4) (k aim : Nat) (hk : k ≤ 20) (ha : aim = 1 ∨ aim = 2) (u : Nat → Nat) (hu : ∀ j, j < n → gI w 107 j = nI (u j) ∧ u j < r) : P_X11_costOf F w (nI n) (nI k) (nI (aim - 1)) = some (nI (cst T k aim u n), w) := by
  have hr := ok.1
  unfold P_X11_costOf
  obtain ⟨w2, e1, e2, -⟩ := lpG (fun m w (s : Nat × Nat) j => L_X11_costOf_9 F (nI n) (nI k) (nI (aim - 1)) (fun w x7 x8 => (if nI (aim - 1) = 0 then bnd (P_J6_bitCount_0f7a4 F w x7) (fun x18 w17 => some (x18, w17)) else some (x8, w))) m w (nI s.1) (nI s.2) j) (fun w s => (if nI (aim - 1) = 0 then bnd (P_J6_bitCount_0f7a4 F w (nI s.1)) (fun x18 w17 => some (x18, w17)) else some (nI s.2, w))) (fun j s => (s.1 ||| 2 ^ u j, s.2 + ftN T (u j) * k)) (fun v s j => v = w ∧ s.2 ≤ 180 * j) n
    (fun m v s hI => by
      show L_X11_costOf_9 F (nI n) (nI k) (nI (aim - 1)) _ (m + 1) v _ _ _ = _
      rw [L_X11_costOf_9, if_pos (Int32.le_refl _)])
    (fun m v s j hj hI => by
      obtain ⟨rfl, h2⟩ := hI
      obtain ⟨h3, h4⟩ := hu j (by omega)
      show ∃ w2, L_X11_costOf_9 F (nI n) (nI k) (nI (aim - 1)) _ (m + 1) v _ _ _ = L_X11_costOf_9 F (nI n) (nI k) (nI (aim - 1)) _ m w2 _ _ _ ∧ _
      obtain ⟨f1, f2⟩ := ft_e ok (u j)
      have f3 : gI v 91 (u j) = nI (ftN T (u j)) := by rw [← f1]; exact (h.2.2.2.2.2.1 (u j) h4).2
      have f4 : ftN T (u j) * k ≤ 180 := Nat.le_trans (Nat.mul_le_mul f2 hk) (by decide)
      rw [L_X11_costOf_9, if_neg (nI_ge (by omega) (by omega)), gd_t (inB_n (show j < 4 by omega) (by omega)), lt_v, gd_t (inB_n (show j < 4 by omega) (by omega)), nI_clamp (by omega), h3, gd_t (inB_n (show u j < 8 by omega) (by omega)), nI_clamp (by omega), lt_v, lt_v, nI_1, f3, pk_mul, nI_add, show nI s.1 ||| ishlI 1 (nI (u j)) = nI (s.1 ||| 2 ^ u j) from by rw [nI_or, ← bit1_N (u j) (by omega)]; rfl, Nat.mul_comm k]
      exact ⟨v, rfl, rfl, by show s.2 + _ ≤ _; omega⟩)
    n 0 (by omega) F (by omega) w (0, 0) ⟨rfl, by omega⟩
  subst e2
  refine (show L_X11_costOf_9 F (nI n) (nI k) (nI (aim - 1)) _ F w2 0 0 0 = _ from e1).trans ?_
  have ef : ∀ m j s, j + m = n → s = (bsN u j, fsN T k u j) → foldU (fun j (s : Nat × Nat) => (s.1 ||| 2 ^ u j, s.2 + ftN T (u j) * k)) m j s = (bsN u n, fsN T k u n) := by
    intro m
    induction m with
    | zero => intro j s hj hs; obtain rfl : j = n := by omega
              exact hs
    | succ m ih => intro j s hj hs; exact ih (j + 1) _ (by omega) (by rw [hs]; rfl)
  rw [ef n 0 (0, 0) (by omega) rfl]
  unfold cst
  have hb := bsN_lt (u := u) n (fun j hj => by have := (hu j hj).2; omega)
  rcases ha with rfl | rfl
  · rw [if_pos (show nI (1 - 1) = 0 from rfl), if_pos rfl, bnd_r (v_bc F w2 _), bc_pc hb]
  · rw [if_neg (show ¬ nI (2 - 1) = 0 by decide)]
    rfl
theorem m_fine {F : Nat} (hF : 2000 ≤ F) {w w1 : Wd} {T : Tw} {b : Bl} {r p N : Nat} (g : MG w T b r p N) (h : Fm QN w w1) (n : Nat) (hn : n ≤ 4) (k : Nat) (hk : k ≤ 20) (u : Nat → Nat) (hu : ∀ j, j < n → gI w1 107 j = nI (u j) ∧ u j < r) : ∃ w2, P_X11_isFine F w1 (nI n) (nI k) = some (if rnM T k b u n 13 = b 13 then 1 else 0, w2) ∧ Fm QN w w2 ∧ Fm (Mn 96) w1 w2 := by
  have hr := g.1.1
  unfold P_X11_isFine
  obtain ⟨w2, e1, e2, e3⟩ := l_X11_puts F (fun w => some w) 16 0 rfl F (by omega) w1
  have hp : P_X11_puts F w1 = some w2 := e1
  have m0 : MS w w2 b := ⟨h.tr (e2.imp (fun _ _ h => Mn_QN h)), by rw [← g.2.2.1]; exact rM_ext (fun k hk => by rw [e3 k hk, if_pos (Nat.zero_le _), (h 95 k (fun q => QN95 q)).1])⟩
  rw [bnv_r hp]
  simp only [gd1, GL]
  obtain ⟨w3, f1, f2, f3, f4⟩ := lpG (fun m w (s : Unit) j => L_X11_isFine_6 F (nI n) (nI k) (fun w  => (lt (if (gI w 96 13) = (gI w 95 13) then 1 else 0 : Int32) (fun x15 => gd (isZO x15) (some (x15, w))))) m w j) (fun w _ => (lt (if (gI w 96 13) = (gI w 95 13) then 1 else 0 : Int32) (fun x15 => gd (isZO x15) (some (x15, w))))) (fun _ s => s) (fun v s j => MS w v (rnM T k b u j) ∧ zB (rnM T k b u j) r ∧ Fm (Mn 96) w1 v) n
    (fun m v s hI => by
      show L_X11_isFine_6 F (nI n) (nI k) _ (m + 1) v _ = _
      rw [L_X11_isFine_6, if_pos (Int32.le_refl _)])
    (fun m v s j hj hI => by
      obtain ⟨hI1, hI2, hI3⟩ := hI
      obtain ⟨h3, h4⟩ := hu j (by omega)
      show ∃ w2, L_X11_isFine_6 F (nI n) (nI k) _ (m + 1) v _ = L_X11_isFine_6 F (nI n) (nI k) _ m w2 _ ∧ _
      have h5 : gI v 107 j = nI (u j) := by rw [(hI3 107 j (by unfold Mn; omega)).1]; exact h3
      have ms2 := ms_rope hI1 (bit1 (u j))
      have hz2 : zB (setR (rnM T k b u j) (bit1 (u j))) r := by rw [bit1_N (u j) (by omega)]; exact zB_set hr hI2 (Nat.pow_lt_pow_right (by decide) h4)
      obtain ⟨v2, q1, q2, q3, q4⟩ := ms_goesOn hF g.1 (a := 96) (.inr (.inl rfl)) (MG_QN g ms2.1).2.1 (by rw [ms2.2]; exact hz2) k (by omega)
      rw [ms2.2] at q3 q4
      rw [L_X11_isFine_6, if_neg (nI_ge (by omega) (by omega)), gd_t (inB_n (show j < 4 by omega) (by omega)), gd_t (show inB 8 16 = true from rfl), lt_v, nI_clamp (by omega), h5, bnd_r (show P_X11_goesOn F (sI v 96 8 (ishlI 1 (nI (u j)))) 96 (nI k) = _ from q1), lt_v, nI_1]
      refine ⟨v2, rfl, ⟨ms2.1.tr (q2.imp (fun _ _ h => Mn_QN h)), q3⟩, q4, (hI3.sI (.inl rfl)).tr q2⟩)
    n 0 (by omega) F (by omega) w2 () ⟨m0, g.2.2.2, e2⟩
  refine ⟨w3, (show L_X11_isFine_6 F (nI n) (nI k) _ F w2 0 = _ from f1).trans ?_, f2.1, f4⟩
  have k1 : gI w3 96 13 = rnM T k b u n 13 := by rw [← f2.2, rM_k (by decide)]
  have k2 : gI w3 95 13 = b 13 := now_k g (f2.1.imp (fun _ _ h => QN_QM h)) (by decide)
  rw [lt_v, k1, k2, gd_t isZO_j]
def bsv (o : Rb) : Int32 := match o with | none => 1000000 | some z => nI z.1
def bstM (v : Wd) (n : Nat) (o : Rb) : Prop := gI v 88 34 = bsv o ∧ okRb o ∧ ∀ z, o = some z → ∀ j, j < n → gI v 108 j = nI (z.2 j)
theorem nob_m {o : Rb} (ho : okRb o) {a : Nat} (ha : a ≤ 720) : bsv o ≤ nI a ↔ nob o a = true := by
  cases o with
  | none =>
    refine ⟨fun h => absurd h (show ¬ (1000000 : Int32) ≤ nI a from nI_ge (a := a) (b := 1000000) (by omega) (by decide)), fun h => by cases h⟩
  | some z =>
    have h := ho z rfl
    have e : nob (some z) a = decide (z.1 ≤ a) := rfl
    rw [e, decide_eq_true_eq]
    exact nI_leI (a := z.1) (b := a) (by omega) (by omega)
theorem d_rotas {F : Nat} (hF : 2000 ≤ F) {w : Wd} {T : Tw} {b : Bl} {r p N : Nat} (g : MG w T b r p N) (n : Nat) (hn : n ≤ 4) (k aim : Nat) (hk : k ≤ 20) (ha : aim = 1 ∨ aim = 2) : ∀ m i, i + m = n → ∀ f, m < f → ∀ v u o, Fm QN w v → (∀ j, j < i → gI v 107 j = nI (u j) ∧ u j < r) → bstM v n o →
    ∃ v2, D_rotas F f v (nI i) (nI n) (nI k) (nI (aim - 1)) = some v2 ∧ Fm QN w v2 ∧ (∀ j, j < i → gI v2 107 j = gI v 107 j) ∧ bstM v2 n (mq T r k aim b n m i u o) := by
  have hr := g.1.1
  intro m
  induction m with
  | zero =>
    intro i hi f hf v u o hv hu hb
    obtain ⟨f, rfl⟩ : ∃ q, f = q + 1 := ⟨f - 1, by omega⟩
    obtain rfl : i = n := by omega
    obtain ⟨b1, b2, b3⟩ := hb
    have g1 := MG_QN g hv
    have hA := cst_le (aim := aim) g.1 hk (u := u) (i := i) hn (fun j hj => by have := (hu j hj).2; omega)
    have hc := m_cost (F := F) (by omega) g1.1 g1.2.1 i hn k aim hk ha u hu
    show ∃ v2, B_X11_rotasFrom F (D_rotas F f) v (nI i) (nI i) (nI k) (nI (aim - 1)) = some v2 ∧ Fm QN w v2 ∧ _ ∧ bstM v2 i (if nob o (cst T k aim u i) = true then o else if rnM T k b u i 13 = b 13 then some (cst T k aim u i, u) else o)
    unfold B_X11_rotasFrom
    rw [if_pos rfl, bnd_r hc, b1]
    by_cases c1 : nob o (cst T k aim u i) = true
    · rw [if_pos c1, if_pos ((nob_m b2 hA).mpr c1)]
      exact ⟨v, rfl, hv, fun _ _ => rfl, b1, b2, b3⟩
    · rw [if_neg c1, if_neg (fun h => c1 ((nob_m b2 hA).mp h))]
      obtain ⟨v2, q1, q2, q3⟩ := m_fine hF g hv i hn k hk u hu
      have k107 : ∀ j, gI v2 107 j = gI v 107 j := fun j => (q3 107 j (by unfold Mn; omega)).1
      have k108 : ∀ j, gI v2 108 j = gI v 108 j := fun j => (q3 108 j (by unfold Mn; omega)).1
      have k34 : gI v2 88 34 = gI v 88 34 := (q3 88 34 (by unfold Mn; omega)).1
      rw [bnd_r q1]
      by_cases c2 : rnM T k b u i 13 = b 13
      · rw [if_pos c2, if_pos c2, if_neg (show ¬ (1 : Int32) = 0 by decide), lt_v]
        have key : ∀ m j, j + m = i → ∀ f2, m < f2 → ∀ v3, Fm QN w v3 → gI v3 88 34 = nI (cst T k aim u i) → (∀ l, gI v3 107 l = gI v 107 l) → (∀ l, l < j → gI v3 108 l = nI (u l)) → ∃ v4, L_X11_rotasFrom_42 F (nI i) (nI i) (nI k) (nI (aim - 1)) (D_rotas F f) (fun w => some w) f2 v3 (nI j) = some v4 ∧ Fm QN w v4 ∧ gI v4 88 34 = nI (cst T k aim u i) ∧ (∀ l, gI v4 107 l = gI v 107 l) ∧ (∀ l, l < i → gI v4 108 l = nI (u l)) := by
          intro m
          induction m with
          | zero =>
            intro j hj f2 hf2 v3 h1 h2 h3 h4
            obtain ⟨f2, rfl⟩ : ∃ q, f2 = q + 1 := ⟨f2 - 1, by omega⟩
            obtain rfl : j = i := by omega
            rw [L_X11_rotasFrom_42, if_pos (Int32.le_refl _)]
            exact ⟨v3, rfl, h1, h2, h3, h4⟩
          | succ m ih =>
            intro j hj f2 hf2 v3 h1 h2 h3 h4
            obtain ⟨f2, rfl⟩ : ∃ q, f2 = q + 1 := ⟨f2 - 1, by omega⟩
            rw [L_X11_rotasFrom_42, if_neg (nI_ge (by omega) (by omega)), gd_t (inB_n (show j < 4 by omega) (by omega)), gd_t (inB_n (show j < 4 by omega) (by omega)), lt_v, lt_v, nI_1, nI_clamp (by omega)]
            refine ih (j + 1) (by omega) f2 (by omega) _ (h1.sI (by unfold QN; omega)) (by rw [gIa (by decide)]; exact h2) (fun l => by rw [gIa (by decide)]; exact h3 l) (fun l hl => ?_)
            by_cases hlj : l = j
            · subst hlj; rw [gIs, h3]; exact (hu l (by omega)).1
            · rw [gIk hlj]; exact h4 l (by omega)
        obtain ⟨v4, p1, p2, p3, p4, p5⟩ := key i 0 (by omega) F (by omega) (sI v2 88 34 (nI (cst T k aim u i))) (q2.sI (by unfold QN; omega)) gIs (fun l => by rw [gIa (by decide)]; exact k107 l) (fun l hl => absurd hl (Nat.not_lt_zero _))
        refine ⟨v4, p1, p2, fun j _ => p4 j, p3, fun z hz => by cases hz; exact hA, fun z hz j hj => by cases hz; exact p5 j hj⟩
      · rw [if_neg c2, if_neg c2, if_pos rfl]
        exact ⟨v2, rfl, q2, fun j _ => k107 j, by rw [k34]; exact b1, b2, fun z hz j hj => by rw [k108]; exact b3 z hz j hj⟩
  | succ m ih =>
    intro i hi f hf v u o hv hu hb
    obtain ⟨f, rfl⟩ : ∃ q, f = q + 1 := ⟨f - 1, by omega⟩
    show ∃ v2, B_X11_rotasFrom F (D_rotas F f) v (nI i) (nI n) (nI k) (nI (aim - 1)) = some v2 ∧ Fm QN w v2 ∧ _ ∧ bstM v2 n (foldU (fun q o => mq T r k aim b n m (i + 1) (ups u i q) o) r 0 o)
    unfold B_X11_rotasFrom
    rw [if_neg (fun e => by have := (nI_eq (a := i) (b := n) (by omega) (by omega)).mp e; omega)]
    obtain ⟨v2, e1, e2, e3, e4⟩ := lpG (fun m' v (s : Rb) j => L_X11_rotasFrom_72 F (nI i) (nI n) (nI k) (nI (aim - 1)) (D_rotas F f) (fun w => some w) m' v j) (fun v _ => some v) (fun q o => mq T r k aim b n m (i + 1) (ups u i q) o) (fun v' s _ => Fm QN w v' ∧ (∀ j, j < i → gI v' 107 j = gI v 107 j) ∧ bstM v' n s) r
      (fun m' v' s hI => by
        have g1 := MG_QN g hI.1
        show L_X11_rotasFrom_72 F (nI i) (nI n) (nI k) (nI (aim - 1)) _ _ (m' + 1) v' _ = _
        rw [L_X11_rotasFrom_72, g1.2.1.1, if_pos (Int32.le_refl _)])
      (fun m' v' s q hq hI => by
        obtain ⟨i1, i2, i3⟩ := hI
        have g1 := MG_QN g i1
        show ∃ w2, L_X11_rotasFrom_72 F (nI i) (nI n) (nI k) (nI (aim - 1)) _ _ (m' + 1) v' _ = L_X11_rotasFrom_72 F (nI i) (nI n) (nI k) (nI (aim - 1)) _ _ m' w2 _ ∧ _
        obtain ⟨b1, b2, b3⟩ := i3
        obtain ⟨v3, d1, d2, d3, d4⟩ := ih (i + 1) (by omega) f (by omega) (sI v' 107 i (nI q)) (ups u i q) s (i1.sI (by unfold QN; omega)) (fun j hj => by
          by_cases hji : j = i
          · subst hji; rw [gIs, ups_s]; exact ⟨rfl, hq⟩
          · rw [gIk hji, ups_n hji, i2 j (by omega)]; exact hu j (by omega)) ⟨by rw [gIa (by decide)]; exact b1, b2, fun z hz j hj => by rw [gIa (by decide)]; exact b3 z hz j hj⟩
        rw [L_X11_rotasFrom_72, g1.2.1.1, if_neg (nI_ge hq (by omega)), gd_t (inB_n (show i < 4 by omega) (by omega)), lt_v, nI_clamp (by omega), nI_1, bnv_r d1, lt_v, nI_1]
        exact ⟨v3, rfl, d2, fun j hj => by rw [d3 j (by omega), gIk (by omega)]; exact i2 j hj, d4⟩)
      r 0 (by omega) F (by omega) v o ⟨hv, fun _ _ => rfl, hb⟩
    exact ⟨v2, e1, e2, e3, e4⟩
/-- the model tells a row -/
theorem m_tell {w w1 : Wd} {F : Nat} (z : Nat → Nat) (n : Nat) (hn : n ≤ 4) (a : Nat) (ha : a = 107 ∨ a = 108) {R : Type} (L : Nat → Wd → Int32 → Option R) (kk : Wd → Option R) (h0 : ∀ f v, L (f + 1) v (nI n) = kk v) (h1 : ∀ f v j, j < n → L (f + 1) v (nI j) = bnv (P_X11_enters F v (Int32.toInt64 (gI v a j))) (fun w17 => L f w17 (nI (j + 1)))) (hz : ∀ j, j < n → gI w1 a j = nI (z j)) : ∀ m j, j + m = n → ∀ f, m < f → ∀ v, Fm Tm w1 v → TlM v (tlz z j) → ∃ v2, L f v (nI j) = kk v2 ∧ Fm Tm w1 v2 ∧ TlM v2 (tlz z n) := by
  intro m
  induction m with
  | zero =>
    intro j hj f hf v hv ht
    obtain ⟨f, rfl⟩ : ∃ q, f = q + 1 := ⟨f - 1, by omega⟩
    obtain rfl : j = n := by omega
    exact ⟨v, h0 f v, hv, ht⟩
  | succ m ih =>
    intro j hj f hf v hv ht
    obtain ⟨f, rfl⟩ : ∃ q, f = q + 1 := ⟨f - 1, by omega⟩
    have e : gI v a j = nI (z j) := by rw [(hv a j (by unfold Tm; omega)).1]; exact hz j (by omega)
    obtain ⟨v2, d1, d2, d3⟩ := v_X11_enters F ht (by rw [tlz_len]; omega) (i64 (nI (z j)))
    rw [h1 f v j (by omega), e, bnv_r (show P_X11_enters F v (Int32.toInt64 (nI (z j))) = _ from d1)]
    exact ih (j + 1) (by omega) f (by omega) v2 (hv.tr d2) d3
theorem v_X11_rotaOf {F : Nat} (hF : 2000 ≤ F) {w w0 : Wd} {T : Tw} {b : Bl} {r p N : Nat} (g : MG w T b r p N) (h0 : Fm QN w w0) (n : Nat) (hn1 : 1 ≤ n) (hn : n ≤ 4) (k aim : Nat) (hk : k ≤ 20) (ha : aim = 1 ∨ aim = 2) : AskM (P_X11_rotaOf F w0 (nI n) (nI k) (nI (aim - 1))) (match mq T r k aim b n n 0 u0 none with
  | none => (-2, none)
  | some z => (nI z.1, some (tlz z.2 n))) w := by
  obtain ⟨v2, e1, e2, e3, e4, e5, e6⟩ := d_rotas hF g n hn k aim hk ha n 0 (by omega) 100 (by omega) (sI w0 88 34 1000000) u0 none (h0.sI (by unfold QN; omega)) (fun j hj => absurd hj (Nat.not_lt_zero _)) ⟨gIs, (fun z hz => by cases hz), (fun z hz => by cases hz)⟩
  unfold P_X11_rotaOf
  rw [lt_v, bnv_r (show P_X11_rotasFrom F (sI w0 88 34 1000000) 0 (nI n) (nI k) (nI (aim - 1)) = _ from e1), e4]
  cases hm : mq T r k aim b n n 0 u0 none with
  | none =>
    rw [if_pos (show bsv none = 1000000 from rfl)]
    exact am_n e2
  | some z =>
    rw [hm] at e4 e5 e6
    have hz := e5 z rfl
    rw [if_neg (show ¬ bsv (some z) = 1000000 from fun e => by have := (nI_eq (a := z.1) (b := 1000000) (by omega) (by decide)).mp e; omega), lt_v]
    obtain ⟨v3, d1, d2, d3⟩ := m_tell (w := w) (w1 := v2) (F := F) z.2 n hn 108 (.inr rfl) (fun f v j => L_X11_rotaOf_36 F (nI n) (nI k) (nI (aim - 1)) (fun w  => some (gI w 88 34, w)) f v j) (fun w  => some (gI w 88 34, w)) (fun f v => by
        show L_X11_rotaOf_36 F (nI n) (nI k) (nI (aim - 1)) _ (f + 1) v _ = _
        rw [L_X11_rotaOf_36, if_pos (Int32.le_refl _)]) (fun f v j hj => by
        show L_X11_rotaOf_36 F (nI n) (nI k) (nI (aim - 1)) _ (f + 1) v _ = _
        rw [L_X11_rotaOf_36, if_neg (nI_ge hj (by omega)), gd_t (inB_n (show j < 4 by omega) (by omega)), nI_clamp (by omega), nI_1]
        rfl) (e6 z rfl) n 0 (by omega) F (by omega) (sI v2 88 1 0) (Fm.rfl'.sI (.inl ⟨rfl, rfl⟩)) tlM_0
    rw [show L_X11_rotaOf_36 F (nI n) (nI k) (nI (aim - 1)) _ F (sI v2 88 1 0) 0 = _ from d1, (d2 88 34 (by unfold Tm; omega)).1, e4]
    exact am_t e2 d2 d3
theorem can_r {β : Type _} (F : Nat) (w : Wd) (x y : Int32) (Z Y : Wd → Option β) : bnd (P_X11_canRota F w x y) (fun x5 w4 => if x5 = 0 then Z w4 else Y w4) = if x < 1 then Z w else if x ≤ 4 then (if y < 1 then Z w else if y ≤ 20 then Y w else Z w) else Z w := by
  unfold P_X11_canRota
  rw [in_r F w x 1 4]
  by_cases h1 : x < 1
  · rw [if_pos h1, if_pos h1]; rfl
  · rw [if_neg h1, if_neg h1]
    by_cases h2 : x ≤ 4
    · rw [if_pos h2, if_pos h2, bnd_r (v_X11_in F w y 1 20)]
      by_cases h3 : y < 1
      · rw [if_pos h3, if_pos h3]; rfl
      · rw [if_neg h3, if_neg h3]
        by_cases h4 : (20 : Int32) < y
        · rw [if_pos h4, if_neg (Int32.not_le.mpr h4)]; rfl
        · rw [if_neg h4, if_pos (Int32.not_lt.mp h4)]; rfl
    · rw [if_neg h2, if_neg h2]; rfl
theorem v_X11_best {F : Nat} (hF : 2000 ≤ F) {w : Wd} {T : Tw} {b : Bl} {r p N : Nat} (g : MG w T b r p N) (aim : Nat) (ha : aim = 1 ∨ aim = 2) (x y : Int32) : AskM (if x < 1 then some (-1, sI w 88 0 0) else if x ≤ 4 then (if y < 1 then some (-1, sI w 88 0 0) else if y ≤ 20 then bnd (P_X11_rotaOf F (sI w 88 0 0) x y (nI (aim - 1))) (fun x8 w7 => some (x8, w7)) else some (-1, sI w 88 0 0)) else some (-1, sI w 88 0 0)) (qBest T b r aim x y) w := by
  unfold qBest
  refine askM_r fm_t0 (fun h1 h2 => askM_r fm_t0 (fun h3 h4 => ?_))
  obtain ⟨n, hn1, hn2, rfl⟩ := rng h1 h2 (A := 1) (B := 4)
  obtain ⟨k, hk1, hk2, rfl⟩ := rng h3 h4 (A := 1) (B := 20)
  rw [nI_clamp (by omega), nI_clamp (by omega)]
  obtain ⟨w2, q1, q2, q3⟩ := v_X11_rotaOf hF g fm_t0 n hn1 hn2 k aim hk2 ha
  rw [bnd_r q1]
  exact ⟨w2, rfl, q2, q3⟩
theorem v_X11_rota {F : Nat} (hF : 2000 ≤ F) {w : Wd} {T : Tw} {b : Bl} {r p N : Nat} (g : MG w T b r p N) (x y : Int32) : AskM (P_X11_rota F w x y) (qBest T b r 1 x y) w := by
  unfold P_X11_rota
  rw [lt_v, can_r F _ x y]
  exact v_X11_best hF g 1 (.inl rfl) x y
theorem v_X11_cheapest {F : Nat} (hF : 2000 ≤ F) {w : Wd} {T : Tw} {b : Bl} {r p N : Nat} (g : MG w T b r p N) (x y : Int32) : AskM (P_X11_cheapest F w x y) (qBest T b r 2 x y) w := by
  unfold P_X11_cheapest
  rw [lt_v, can_r F _ x y]
  exact v_X11_best hF g 2 (.inr rfl) x y
theorem d_any {F : Nat} (hF : 2000 ≤ F) {w : Wd} {T : Tw} {b : Bl} {r p N : Nat} (g : MG w T b r p N) (n : Nat) (hn : n ≤ 4) (k : Nat) (hk : k ≤ 20) : ∀ m i, i + m = n → ∀ f, m < f → ∀ v u, Fm QN w v → (∀ j, j < i → gI v 107 j = nI (u j) ∧ u j < r) →
    ∃ v2, D_any F f v (nI i) (nI n) (nI k) = some (match aq T r k b n m i u with | .inl _ => 1 | .inr _ => 0, v2) ∧ Fm QN w v2 ∧ (∀ j, j < i → gI v2 107 j = gI v 107 j) ∧ ∀ z, aq T r k b n m i u = .inl z → ∀ j, j < n → gI v2 107 j = nI (z j) := by
  have hr := g.1.1
  intro m
  induction m with
  | zero =>
    intro i hi f hf v u hv hu
    obtain ⟨f, rfl⟩ : ∃ q, f = q + 1 := ⟨f - 1, by omega⟩
    obtain rfl : i = n := by omega
    obtain ⟨v2, q1, q2, q3⟩ := m_fine hF g hv i hn k hk u hu
    have k107 : ∀ j, gI v2 107 j = gI v 107 j := fun j => (q3 107 j (by unfold Mn; omega)).1
    show ∃ v2, B_X11_anyFrom F (D_any F f) v (nI i) (nI i) (nI k) = some (match (if rnM T k b u i 13 = b 13 then .inl u else .inr () : Sum (Nat → Nat) Unit) with | .inl _ => 1 | .inr _ => 0, v2) ∧ Fm QN w v2 ∧ _ ∧ ∀ z, (if rnM T k b u i 13 = b 13 then .inl u else .inr () : Sum (Nat → Nat) Unit) = .inl z → ∀ j, j < i → gI v2 107 j = nI (z j)
    unfold B_X11_anyFrom
    rw [if_pos rfl, bnd_r q1, gd_t isZO_j]
    refine ⟨v2, ?_, q2, fun j _ => k107 j, fun z hz j hj => ?_⟩
    · by_cases c : rnM T k b u i 13 = b 13
      · rw [if_pos c, if_pos c]
      · rw [if_neg c, if_neg c]
    · by_cases c : rnM T k b u i 13 = b 13
      · rw [if_pos c] at hz
        cases hz
        rw [k107]; exact (hu j hj).1
      · rw [if_neg c] at hz; cases hz
  | succ m ih =>
    intro i hi f hf v u hv hu
    obtain ⟨f, rfl⟩ : ∃ q, f = q + 1 := ⟨f - 1, by omega⟩
    show ∃ v2, B_X11_anyFrom F (D_any F f) v (nI i) (nI n) (nI k) = some (match foldX (fun q (_ : Unit) => aq T r k b n m (i + 1) (ups u i q)) r 0 () with | .inl _ => 1 | .inr _ => 0, v2) ∧ Fm QN w v2 ∧ _ ∧ ∀ z, foldX (fun q (_ : Unit) => aq T r k b n m (i + 1) (ups u i q)) r 0 () = .inl z → ∀ j, j < n → gI v2 107 j = nI (z j)
    unfold B_X11_anyFrom
    rw [if_neg (fun e => by have := (nI_eq (a := i) (b := n) (by omega) (by omega)).mp e; omega)]
    rcases lpX (fun m' v (s : Unit) j => L_X11_anyFrom_15 F (nI i) (nI n) (nI k) (D_any F f) (fun w => some (0, w)) m' v j) (fun v _ => some (0, v)) (fun v (z : Nat → Nat) => some (1, v)) (fun q (_ : Unit) => aq T r k b n m (i + 1) (ups u i q)) (fun v' s _ => Fm QN w v' ∧ (∀ j, j < i → gI v' 107 j = gI v 107 j)) (fun v' z => Fm QN w v' ∧ (∀ j, j < i → gI v' 107 j = gI v 107 j) ∧ ∀ j, j < n → gI v' 107 j = nI (z j)) r
      (fun m' v' s hI => by
        have g1 := MG_QN g hI.1
        show L_X11_anyFrom_15 F (nI i) (nI n) (nI k) _ _ (m' + 1) v' _ = _
        rw [L_X11_anyFrom_15, g1.2.1.1, if_pos (Int32.le_refl _)])
      (fun m' v' s q hq hI => by
        obtain ⟨i1, i2⟩ := hI
        have g1 := MG_QN g i1
        show (∃ w2 t, _ ∧ L_X11_anyFrom_15 F (nI i) (nI n) (nI k) _ _ (m' + 1) v' _ = L_X11_anyFrom_15 F (nI i) (nI n) (nI k) _ _ m' w2 _ ∧ _) ∨ (∃ w2 o, _ ∧ L_X11_anyFrom_15 F (nI i) (nI n) (nI k) _ _ (m' + 1) v' _ = _ ∧ _)
        obtain ⟨v3, d1, d2, d3, d4⟩ := ih (i + 1) (by omega) f (by omega) (sI v' 107 i (nI q)) (ups u i q) (i1.sI (by unfold QN; omega)) (fun j hj => by
          by_cases hji : j = i
          · subst hji; rw [gIs, ups_s]; exact ⟨rfl, hq⟩
          · rw [gIk hji, ups_n hji, i2 j (by omega)]; exact hu j (by omega))
        rw [L_X11_anyFrom_15, g1.2.1.1, if_neg (nI_ge hq (by omega)), gd_t (inB_n (show i < 4 by omega) (by omega)), lt_v, nI_clamp (by omega), nI_1, bnd_r d1]
        have k3 : ∀ j, j < i → gI v3 107 j = gI v 107 j := fun j hj => by rw [d3 j (by omega), gIk (by omega)]; exact i2 j hj
        cases ha : aq T r k b n m (i + 1) (ups u i q) with
        | inl z =>
          right
          exact ⟨v3, z, rfl, by rw [if_neg (show ¬ (1 : Int32) = 0 by decide)], d2, k3, d4 z ha⟩
        | inr t =>
          left
          exact ⟨v3, t, rfl, by rw [if_pos rfl, lt_v, nI_1], d2, k3⟩)
      r 0 (by omega) F (by omega) v () ⟨hv, fun _ _ => rfl⟩ with ⟨w2, t, a1, a2, a3, a4⟩ | ⟨w2, o, a1, a2, a3, a4, a5⟩
    · rw [a1]
      exact ⟨w2, a2, a3, a4, fun z hz => by cases hz⟩
    · rw [a1]
      exact ⟨w2, a2, a3, a4, fun z hz => by cases hz; exact a5⟩
theorem v_X11_longest {F : Nat} (hF : 2000 ≤ F) {w : Wd} {T : Tw} {b : Bl} {r p N : Nat} (g : MG w T b r p N) (x : Int32) : AskM (P_X11_longest F w x) (qLongest T b r x) w := by
  unfold P_X11_longest qLongest
  rw [lt_v, in_r F _ x 1 3]
  refine askM_r fm_t0 (fun h1 h2 => ?_)
  obtain ⟨n, hn1, hn2, rfl⟩ := rng h1 h2 (A := 1) (B := 3)
  rw [nI_clamp (by omega)]
  rcases lpD (fun m w (_ : Unit) k => L_X11_longest_22 F (nI n) (fun w  => some ((-2), w)) m w k) (fun w _ => some ((-2), w)) (fun u (o : Nat × (Nat → Nat)) => lt (sI u 88 1 0) (fun w12 => L_X11_longest_44 F (nI n) (nI o.1) (fun w  => some (nI o.1, w)) F w12 0)) (lnX T b r n) (fun u _ k => Fm QN w u ∧ k ≤ 20) (fun u o => Fm QN w u ∧ ∀ j, j < n → gI u 107 j = nI (o.2 j))
    (fun m u c hI => by
      show L_X11_longest_22 F (nI n) _ (m + 1) u _ = _
      rw [L_X11_longest_22, if_pos (by decide)])
    (fun m u c k _ hI => by
      obtain ⟨hI1, hI2⟩ := hI
      show (∃ w2 t, _ ∧ L_X11_longest_22 F (nI n) _ (m + 1) u _ = L_X11_longest_22 F (nI n) _ m w2 _ ∧ _) ∨ (∃ w2 o, _ ∧ L_X11_longest_22 F (nI n) _ (m + 1) u _ = _ ∧ _)
      obtain ⟨v2, d1, d2, d3, d4⟩ := d_any hF g n (by omega) (k + 1) hI2 n 0 (by omega) 100 (by omega) u u0 hI1 (fun j hj => absurd hj (Nat.not_lt_zero _))
      rw [L_X11_longest_22, if_neg (show ¬ nI (k + 1) < 1 from nI_nlt (a := k + 1) (b := 1) (by omega) (by omega)), bnd_r (show P_X11_anyFrom F u 0 (nI n) (nI (k + 1)) = _ from d1)]
      unfold lnX
      cases hq : aq T r (k + 1) b n n 0 u0 with
      | inl z =>
        right
        exact ⟨v2, (k + 1, z), rfl, by rw [if_neg (show ¬ (1 : Int32) = 0 by decide)], d2, d4 z hq⟩
      | inr t =>
        left
        exact ⟨v2, (), rfl, by rw [if_pos rfl, lt_v, pk_m1], d2, by omega⟩)
    20 F (by omega) (sI w 88 0 0) () ⟨fm_t0, by omega⟩ with ⟨w2, t, e1, e2, e3⟩ | ⟨w2, o, e1, e2, e3, e4⟩
  · rw [e1, show L_X11_longest_22 F (nI n) _ F (sI w 88 0 0) 20 = _ from e2]
    exact am_n e3.1
  · rw [e1, show L_X11_longest_22 F (nI n) _ F (sI w 88 0 0) 20 = _ from e2, lt_v]
    obtain ⟨v3, d1, d2, d3⟩ := m_tell (w := w) (w1 := w2) (F := F) o.2 n (by omega) 107 (.inl rfl) (fun f v j => L_X11_longest_44 F (nI n) (nI o.1) (fun w  => some (nI o.1, w)) f v j) (fun w  => some (nI o.1, w)) (fun f v => by
        show L_X11_longest_44 F (nI n) (nI o.1) _ (f + 1) v _ = _
        rw [L_X11_longest_44, if_pos (Int32.le_refl _)]) (fun f v j hj => by
        show L_X11_longest_44 F (nI n) (nI o.1) _ (f + 1) v _ = _
        rw [L_X11_longest_44, if_neg (nI_ge hj (by omega)), gd_t (inB_n (show j < 4 by omega) (by omega)), nI_clamp (by omega), nI_1]
        rfl) e4 n 0 (by omega) F (by omega) (sI w2 88 1 0) (Fm.rfl'.sI (.inl ⟨rfl, rfl⟩)) tlM_0
    rw [show L_X11_longest_44 F (nI n) (nI o.1) _ F (sI w2 88 1 0) 0 = _ from d1]
    exact am_t e3 d2 d3
