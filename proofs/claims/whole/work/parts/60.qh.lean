-- ===== more loops =====
theorem lpX1 {σ ρ R : Type} (L : Nat → Wd → σ → Int32 → Option R) (kk : Wd → σ → Option R) (ex : Wd → ρ → Option R) (f : Nat → σ → Sum ρ σ) (I : Wd → σ → Nat → Prop) (J : Wd → ρ → Prop) (M : Nat)
    (h0 : ∀ n w s, I w s M → L (n + 1) w s (nI M) = kk w s)
    (h1 : ∀ n w s j, 0 < n → j < M → I w s j → (∃ w2 t, f j s = .inr t ∧ L (n + 1) w s (nI j) = L n w2 t (nI (j + 1)) ∧ I w2 t (j + 1)) ∨ (∃ w2 o, f j s = .inl o ∧ L (n + 1) w s (nI j) = ex w2 o ∧ J w2 o)) :
    ∀ m j, j + m = M → ∀ n, m < n → ∀ w s, I w s j → (∃ w2 t, foldX f m j s = .inr t ∧ L n w s (nI j) = kk w2 t ∧ I w2 t M) ∨ (∃ w2 o, foldX f m j s = .inl o ∧ L n w s (nI j) = ex w2 o ∧ J w2 o) := by
  intro m
  induction m with
  | zero =>
    intro j hj n hn w s hI
    obtain ⟨n, rfl⟩ : ∃ q, n = q + 1 := ⟨n - 1, by omega⟩
    obtain rfl : j = M := by omega
    exact .inl ⟨w, s, rfl, h0 n w s hI, hI⟩
  | succ m ih =>
    intro j hj n hn w s hI
    obtain ⟨n, rfl⟩ : ∃ q, n = q + 1 := ⟨n - 1, by omega⟩
    rcases h1 n w s j (by omega) (by omega) hI with ⟨w2, t, e0, e1, e2⟩ | ⟨w2, o, e0, e1, e2⟩
    · have e : foldX f (m + 1) j s = foldX f m (j + 1) t := by rw [foldX]; simp only [e0]
      rw [e, e1]
      exact ih (j + 1) (by omega) n (by omega) w2 t e2
    · have e : foldX f (m + 1) j s = .inl o := by rw [foldX]; simp only [e0]
      rw [e]
      exact .inr ⟨w2, o, rfl, e1, e2⟩
def foldD {σ ρ : Type} (f : Nat → σ → Sum ρ σ) : Nat → σ → Sum ρ σ
  | 0, s => .inr s
  | m + 1, s => match f (m + 1) s with
    | .inl o => .inl o
    | .inr t => foldD f m t
theorem lpD {σ ρ R : Type} (L : Nat → Wd → σ → Int32 → Option R) (kk : Wd → σ → Option R) (ex : Wd → ρ → Option R) (f : Nat → σ → Sum ρ σ) (I : Wd → σ → Nat → Prop) (J : Wd → ρ → Prop)
    (h0 : ∀ n w s, I w s 0 → L (n + 1) w s (nI 0) = kk w s)
    (h1 : ∀ n w s j, 0 < n → I w s (j + 1) → (∃ w2 t, f (j + 1) s = .inr t ∧ L (n + 1) w s (nI (j + 1)) = L n w2 t (nI j) ∧ I w2 t j) ∨ (∃ w2 o, f (j + 1) s = .inl o ∧ L (n + 1) w s (nI (j + 1)) = ex w2 o ∧ J w2 o)) :
    ∀ m n, m < n → ∀ w s, I w s m → (∃ w2 t, foldD f m s = .inr t ∧ L n w s (nI m) = kk w2 t ∧ I w2 t 0) ∨ (∃ w2 o, foldD f m s = .inl o ∧ L n w s (nI m) = ex w2 o ∧ J w2 o) := by
  intro m
  induction m with
  | zero =>
    intro n hn w s hI
    obtain ⟨n, rfl⟩ : ∃ q, n = q + 1 := ⟨n - 1, by omega⟩
    exact .inl ⟨w, s, rfl, h0 n w s hI, hI⟩
  | succ m ih =>
    intro n hn w s hI
    obtain ⟨n, rfl⟩ : ∃ q, n = q + 1 := ⟨n - 1, by omega⟩
    rcases h1 n w s m (by omega) hI with ⟨w2, t, e0, e1, e2⟩ | ⟨w2, o, e0, e1, e2⟩
    · have e : foldD f (m + 1) s = foldD f m t := by rw [foldD]; simp only [e0]
      rw [e, e1]
      exact ih n (by omega) w2 t e2
    · have e : foldD f (m + 1) s = .inl o := by rw [foldD]; simp only [e0]
      rw [e]
      exact .inr ⟨w2, o, rfl, e1, e2⟩
-- ===== who can ring; another frost, another weight =====
def abl (T : Tw) (b : Bl) (i : Nat) : Int32 := if T 4 0 ≤ nI i then 0 else if loudT T b (bit1 i) ≤ 0 then 0 else bit1 i
def ableT (T : Tw) (b : Bl) : Int32 := orR (abl T b) 0 8
theorem Scr_SP {b : Nat} (h : Scr b) : SP b := .inl h
theorem Kp_Scr : Kp Scr := fun _ h => .inr (.inl h)
theorem v_X9_able {F : Nat} (hF : 2000 ≤ F) (w : Wd) (t : Nat) (ok : okT w t) : ∃ w2, P_X9_able F w t 23 = some (ableT (tC w t) (bC w 23), w2) ∧ Fr Scr w w2 := by
  unfold P_X9_able
  obtain ⟨w2, e1, e2⟩ := lpG (fun n w (s : Int32) i => L_X9_able_4 F t 23 (fun w x5 => some (x5, w)) n w s i) (fun w s => some (s, w)) (fun i x => x ||| abl (tC w t) (bC w 23) i) (fun u _ _ => Fr Scr w u) 8
    (fun n u s hI => by
      show L_X9_able_4 F t 23 _ (n + 1) u _ _ = _
      rw [L_X9_able_4, if_pos (show (8 : Int32) ≤ nI 8 from Int32.le_refl _)])
    (fun n u s j hj hI => by
      show ∃ w2, L_X9_able_4 F t 23 _ (n + 1) u _ _ = L_X9_able_4 F t 23 _ n w2 _ _ ∧ _
      have e40 : gI u 6 2 = tC w t 4 0 := (hI 6 (by unfold Scr; omega)).1 2
      rw [L_X9_able_4, if_neg (n8gt hj), bnd_r (v_X5_has F u 6 j hj), e40]
      unfold abl K_X9_able_38
      simp only [lt_v, nI_1]
      by_cases c1 : tC w t 4 0 ≤ nI j
      · rw [if_pos c1, if_pos rfl, if_pos c1, or0]
        exact ⟨u, rfl, hI⟩
      · rw [if_neg c1, if_neg (by decide), if_neg c1]
        obtain ⟨u2, d1, d2⟩ := v_X9_volume (F := F) (by omega) u t 23 (okT_fr Kp_Scr hI ok) (bit1 j)
        rw [tC_fr Kp_Scr hI ok, bC_fr hI (by unfold Scr; omega) (by unfold Scr; omega)] at d1
        rw [bnd_r (show P_X9_volume F u t 23 (ishlI 1 (nI j)) = _ from d1)]
        have f2 : Fr Scr w u2 := hI.tr d2 (fun _ h => h) (fun _ h => h)
        by_cases c2 : loudT (tC w t) (bC w 23) (bit1 j) ≤ 0
        · rw [if_pos c2, if_pos c2, or0]
          exact ⟨u2, rfl, f2⟩
        · rw [if_neg c2, if_neg c2]
          exact ⟨u2, rfl, f2⟩)
    8 0 (by omega) F (by omega) w 0 Fr.rfl'
  refine ⟨w2, (show L_X9_able_4 F t 23 _ F w 0 0 = _ from e1).trans ?_, e2⟩
  rw [orF, zor]
  rfl
def setT (T : Tw) (k : Nat) (v : Int32) : Tw := fun c j => if c = 4 ∧ j = k then v else T c j
/-- the guess, as the tower is -/
def GP (b : Nat) : Prop := b = 17
theorem v_X9_setAs (F : Nat) (w : Wd) (ok : okT w 5) : ∃ w2, P_X9_setAs F w 17 5 = some w2 ∧ Fr GP w w2 ∧ okT w2 17 ∧ tC w2 17 = tC w 5 := by
  obtain ⟨-, h2, h3⟩ := ok
  have h12 := isX2_or h2
  unfold P_X9_setAs
  rw [lt_v, gd_t h2]
  simp only [lt_v]
  generalize hu : sI (sI (sI (sR w 17 2 (gR w 5 2)) 17 3 (gI (sR w 17 2 (gR w 5 2)) 5 3)) 17 4 (gI (sI (sR w 17 2 (gR w 5 2)) 17 3 (gI (sR w 17 2 (gR w 5 2)) 5 3)) 5 4)) 17 5 (gI (sI (sI (sR w 17 2 (gR w 5 2)) 17 3 (gI (sR w 17 2 (gR w 5 2)) 5 3)) 17 4 (gI (sI (sR w 17 2 (gR w 5 2)) 17 3 (gI (sR w 17 2 (gR w 5 2)) 5 3)) 5 4)) 5 5) = u
  have f : Fr GP w u := by
    rw [← hu]
    exact ((Fr.ofR.tr Fr.ofI (fun _ h => h) (fun _ h => h)).tr Fr.ofI (fun _ h => h) (fun _ h => h)).tr Fr.ofI (fun _ h => h) (fun _ h => h)
  have k2 : gR u 17 2 = gR w 5 2 := by rw [← hu]; simp [gR_sI, gR_sR]
  have k3 : gI u 17 3 = gI w 5 3 := by rw [← hu]; simp [gI_sI, gI_sR]
  have k4 : gI u 17 4 = gI w 5 4 := by rw [← hu]; simp [gI_sI, gI_sR]
  have k5 : gI u 17 5 = gI w 5 5 := by rw [← hu]; simp [gI_sI, gI_sR]
  have kI : ∀ a k, a ≠ 17 → gI u a k = gI w a k := fun a k ha => (f a ha).1 k
  have ec : cde u (gR w 5 2) = cde w (gR w 5 2) := by
    funext k
    unfold cde
    rcases h12 with e | e <;> rw [e, kI _ _ (by decide), kI _ _ (by decide)]
  refine ⟨u, rfl, f, ⟨.inr rfl, by rw [k2]; exact h2, ?_⟩, ?_⟩
  · rw [k2]
    obtain ⟨N, a1, a2, a3⟩ := h3
    refine ⟨N, ?_, by rw [ec]; exact a2, fun k hk => ?_⟩
    · rw [← a1]; rcases h12 with e | e <;> rw [e, kI _ _ (by decide)]
    · have := a3 k hk
      rcases h12 with e | e <;> rw [e] at this ⊢ <;> rw [kI _ _ (by decide)] <;> exact this
  · have er : ∀ a q k, a ≠ 17 → q ≠ 17 → rol u a q k = rol w a q k := fun a q k h1 h2 => by unfold rol; rw [kI _ _ h1, kI _ _ h2]
    funext c k
    unfold tC
    split
    · exact er _ _ _ (by decide) (by decide)
    · exact er _ _ _ (by decide) (by decide)
    · exact er _ _ _ (by decide) (by decide)
    · exact er _ _ _ (by decide) (by decide)
    · split
      · exact kI _ _ (by decide)
      · exact kI _ _ (by decide)
      · exact k3
      · exact k4
      · exact k5
      · rfl
    · rw [k2]; exact congrFun ec k
    · rw [k2]; rcases h12 with e | e <;> rw [e, kI _ _ (by decide)]
    · rfl
theorem okL_17 {w w2 : Wd} (f : Fr GP w w2) {a : Nat} (ha : a = 12 ∨ a = 18) (h : okL w a) : okL w2 a := by
  have kI : ∀ a k, a ≠ 17 → gI w2 a k = gI w a k := fun a k ha => (f a ha).1 k
  have ec : cde w2 a = cde w a := by
    funext k
    unfold cde
    rcases ha with rfl | rfl <;> rw [kI _ _ (by decide), kI _ _ (by decide)]
  obtain ⟨N, a1, a2, a3⟩ := h
  refine ⟨N, ?_, by rw [ec]; exact a2, fun k hk => ?_⟩
  · rw [← a1]; rcases ha with rfl | rfl <;> rw [kI _ _ (by decide)]
  · have := a3 k hk
    rcases ha with rfl | rfl <;> rw [kI _ _ (by decide)] <;> exact this
/-- one of the guess's numbers changed -/
theorem guess_set {w : Wd} (ok : okT w 17) (k : Nat) (v : Int32) (hk : k = 3 ∨ k = 4 ∨ k = 5) : Fr GP w (sI w 17 k v) ∧ okT (sI w 17 k v) 17 ∧ tC (sI w 17 k v) 17 = setT (tC w 17) (k - 1) v := by
  have f : Fr GP w (sI w 17 k v) := Fr.ofI
  have h12 := isX2_or ok.2.1
  refine ⟨f, ⟨.inr rfl, ok.2.1, okL_17 f h12 ok.2.2⟩, ?_⟩
  have kI : ∀ a j, a ≠ 17 → gI (sI w 17 k v) a j = gI w a j := fun a j ha => gIa ha
  have er : ∀ a q k2, a ≠ 17 → q ≠ 17 → rol (sI w 17 k v) a q k2 = rol w a q k2 := fun a q k2 h1 h2 => by unfold rol; rw [kI _ _ h1, kI _ _ h2]
  have ec : cde (sI w 17 k v) (gR w 17 2) = cde w (gR w 17 2) := by
    funext j
    unfold cde
    rcases h12 with e | e <;> rw [e, kI _ _ (by decide), kI _ _ (by decide)]
  funext c j
  unfold setT
  by_cases hc : c = 4
  · subst hc
    rcases hk with rfl | rfl | rfl
    · rcases (show j = 0 ∨ j = 1 ∨ j = 2 ∨ j = 3 ∨ j = 4 ∨ 5 ≤ j by omega) with rfl | rfl | rfl | rfl | rfl | hj
      · show gI (sI w 17 3 v) 6 2 = if 4 = 4 ∧ 0 = 3 - 1 then v else gI w 6 2
        rw [if_neg (by decide)]; exact kI _ _ (by decide)
      · show gI (sI w 17 3 v) 9 2 = if 4 = 4 ∧ 1 = 3 - 1 then v else gI w 9 2
        rw [if_neg (by decide)]; exact kI _ _ (by decide)
      · show gI (sI w 17 3 v) 17 3 = if 4 = 4 ∧ 2 = 3 - 1 then v else gI w 17 3
        rw [if_pos (by decide)]; exact gIs
      · show gI (sI w 17 3 v) 17 4 = if 4 = 4 ∧ 3 = 3 - 1 then v else gI w 17 4
        rw [if_neg (by decide)]; exact gIk (by decide)
      · show gI (sI w 17 3 v) 17 5 = if 4 = 4 ∧ 4 = 3 - 1 then v else gI w 17 5
        rw [if_neg (by decide)]; exact gIk (by decide)
      · obtain ⟨j, rfl⟩ : ∃ q, j = q + 5 := ⟨j - 5, by omega⟩
        show (0 : Int32) = if 4 = 4 ∧ j + 5 = 3 - 1 then v else 0
        rw [if_neg (by omega)]
    · rcases (show j = 0 ∨ j = 1 ∨ j = 2 ∨ j = 3 ∨ j = 4 ∨ 5 ≤ j by omega) with rfl | rfl | rfl | rfl | rfl | hj
      · show gI (sI w 17 4 v) 6 2 = if 4 = 4 ∧ 0 = 4 - 1 then v else gI w 6 2
        rw [if_neg (by decide)]; exact kI _ _ (by decide)
      · show gI (sI w 17 4 v) 9 2 = if 4 = 4 ∧ 1 = 4 - 1 then v else gI w 9 2
        rw [if_neg (by decide)]; exact kI _ _ (by decide)
      · show gI (sI w 17 4 v) 17 3 = if 4 = 4 ∧ 2 = 4 - 1 then v else gI w 17 3
        rw [if_neg (by decide)]; exact gIk (by decide)
      · show gI (sI w 17 4 v) 17 4 = if 4 = 4 ∧ 3 = 4 - 1 then v else gI w 17 4
        rw [if_pos (by decide)]; exact gIs
      · show gI (sI w 17 4 v) 17 5 = if 4 = 4 ∧ 4 = 4 - 1 then v else gI w 17 5
        rw [if_neg (by decide)]; exact gIk (by decide)
      · obtain ⟨j, rfl⟩ : ∃ q, j = q + 5 := ⟨j - 5, by omega⟩
        show (0 : Int32) = if 4 = 4 ∧ j + 5 = 4 - 1 then v else 0
        rw [if_neg (by omega)]
    · rcases (show j = 0 ∨ j = 1 ∨ j = 2 ∨ j = 3 ∨ j = 4 ∨ 5 ≤ j by omega) with rfl | rfl | rfl | rfl | rfl | hj
      · show gI (sI w 17 5 v) 6 2 = if 4 = 4 ∧ 0 = 5 - 1 then v else gI w 6 2
        rw [if_neg (by decide)]; exact kI _ _ (by decide)
      · show gI (sI w 17 5 v) 9 2 = if 4 = 4 ∧ 1 = 5 - 1 then v else gI w 9 2
        rw [if_neg (by decide)]; exact kI _ _ (by decide)
      · show gI (sI w 17 5 v) 17 3 = if 4 = 4 ∧ 2 = 5 - 1 then v else gI w 17 3
        rw [if_neg (by decide)]; exact gIk (by decide)
      · show gI (sI w 17 5 v) 17 4 = if 4 = 4 ∧ 3 = 5 - 1 then v else gI w 17 4
        rw [if_neg (by decide)]; exact gIk (by decide)
      · show gI (sI w 17 5 v) 17 5 = if 4 = 4 ∧ 4 = 5 - 1 then v else gI w 17 5
        rw [if_pos (by decide)]; exact gIs
      · obtain ⟨j, rfl⟩ : ∃ q, j = q + 5 := ⟨j - 5, by omega⟩
        show (0 : Int32) = if 4 = 4 ∧ j + 5 = 5 - 1 then v else 0
        rw [if_neg (by omega)]
  · rw [if_neg (fun h => hc h.1)]
    unfold tC
    split
    · exact er _ _ _ (by decide) (by decide)
    · exact er _ _ _ (by decide) (by decide)
    · exact er _ _ _ (by decide) (by decide)
    · exact er _ _ _ (by decide) (by decide)
    · exact absurd rfl hc
    · exact congrFun ec j
    · show gI (sI w 17 k v) (gR w 17 2) 1 = gI w (gR w 17 2) 1
      rcases h12 with e | e <;> rw [e, kI _ _ (by decide)]
    · rfl
theorem GP_QP {b : Nat} (h : GP b) : QP b := .inr (.inr (.inl h))
def qFrozen (T : Tw) (b : Bl) (x : Int32) : Ans := qR x 0 9 (ableT (setT T 3 x) b, some [i64 (bc (ableT (setT T 3 x) b))])
theorem v_X10_frozen {F : Nat} (hF : 2000 ≤ F) {w : Wd} (s : St w) (x : Int32) : AskC (P_X10_frozen F w x) (qFrozen (tC w 5) (bC w 23) x) w := by
  unfold P_X10_frozen qFrozen
  refine askC_r (fun h1 h2 => ?_)
  obtain ⟨w1, a1, a2, a3, a4⟩ := v_X9_setAs F w s.1
  obtain ⟨b1, b2, b3⟩ := guess_set a3 4 x (.inr (.inl rfl))
  have f1 : Fr GP w (sI w1 17 4 x) := a2.tr b1 (fun _ h => h) (fun _ h => h)
  obtain ⟨w2, c1, c2⟩ := v_X9_able hF (sI w1 17 4 x) 17 b2
  rw [b3, a4, bC_fr f1 (by unfold GP; omega) (by unfold GP; omega)] at c1
  rw [bnv_r a1, lt_v, bnd_r c1, bnd_r (v_bc F w2 _)]
  obtain ⟨w3, d1, d2, d3⟩ := v_X10_tell F w2 (Int32.toInt64 (bc (ableT (setT (tC w 5) (4 - 1) x) (bC w 23))))
  rw [bnv_r d1]
  exact ask_t ((f1.imp (fun _ h => GP_QP h)).tr (c2.imp (fun _ h => SP_QP (Scr_SP h))) (fun _ h => h) (fun _ h => h)) d2 d3
theorem m_able {F : Nat} (hF : 2000 ≤ F) {w : Wd} {T : Tw} {b : Bl} {r p N : Nat} (g : MG w T b r p N) : ∃ w2, P_X11_able F w = some (ableT T b, w2) ∧ Fm Sc w w2 := by
  have hr := g.1.1
  unfold P_X11_able
  obtain ⟨w2, e1, e2⟩ := lpG (fun n w (s : Int32) i => L_X11_able_4 F (fun w x5 => some (x5, w)) n w s i) (fun w s => some (s, w)) (fun i x => x ||| abl T b i) (fun u _ _ => Fm Sc w u) r
    (fun n u s hI => by
      have g1 := MG_QN g (hI.imp (fun _ _ h => Sc_QN h))
      show L_X11_able_4 F _ (n + 1) u _ _ = _
      rw [L_X11_able_4, g1.2.1.1, if_pos (Int32.le_refl _)])
    (fun n u s j hj hI => by
      have g1 := MG_QN g (hI.imp (fun _ _ h => Sc_QN h))
      show ∃ w2, L_X11_able_4 F _ (n + 1) u _ _ = L_X11_able_4 F _ n w2 _ _ ∧ _
      obtain ⟨u2, d1, d2⟩ := v_X11_loudOf (F := F) (by omega) g1.1 g1.2.1 (a := 95) (.inl rfl) (fun k h1 h2 => by have := (g.2.2.2.1 k h1 h2).1; rw [← g1.2.2.1, rM_k (by omega)] at this; exact this) (bit1 j)
      rw [g1.2.2.1] at d1
      rw [L_X11_able_4, g1.2.1.1, if_neg (nI_ge hj (by omega)), bnd_r (show P_X11_loudOf F u 95 (ishlI 1 (nI j)) = _ from d1)]
      simp only [lt_v, nI_1]
      refine ⟨u2, ?_, hI.tr d2⟩
      unfold abl
      rw [g.1.2.2.1, if_neg (nI_ge hj (by omega))]
      rfl)
    r 0 (by omega) F (by omega) w 0 Fm.rfl'
  refine ⟨w2, (show L_X11_able_4 F _ F w 0 0 = _ from e1).trans ?_, e2⟩
  rw [orF, zor, orR_upto (g := abl T b) hr (fun i hi => rfl) (fun i hi hi2 => by unfold abl; rw [g.1.2.2.1, if_pos (nI_le hi (by omega))])]
  rfl
theorem okTw_set {T : Tw} {r p N : Nat} (ok : okTw T r p N) (k : Nat) (v : Int32) (hk : k = 2 ∨ k = 3) : okTw (setT T k v) r p N := by
  obtain ⟨o1, o2, o3, o4, o5, o6, o7, o8, o9, o10, o11⟩ := ok
  have e : ∀ c j, ¬ (c = 4 ∧ j = k) → setT T k v c j = T c j := fun c j h => if_neg h
  refine ⟨o1, o2, by rw [e _ _ (by omega)]; exact o3, by rw [e _ _ (by omega)]; exact o4, by rw [e _ _ (by omega)]; exact o5, ?_, fun j hj => ?_, fun j hj => ?_, fun j => ?_, fun j => ?_, ?_⟩
  · have : setT T k v 5 = T 5 := funext (fun j => e 5 j (by omega))
    rw [this]; exact o6
  · rw [e _ _ (by omega), e _ _ (by omega)]; exact o7 j hj
  · rw [e _ _ (by omega), e _ _ (by omega)]; exact o8 j hj
  · rw [e _ _ (by omega)]; exact o9 j
  · rw [e _ _ (by omega)]; exact o10 j
  · rw [e _ _ (by omega)]; exact o11
theorem MT_set {w : Wd} {T : Tw} {r p N : Nat} (h : MT w T r p N) (k : Nat) (v : Int32) (hk : k = 0 ∨ k = 1) : MT (sI w 94 k v) (setT T (k + 2) v) r p N := by
  obtain ⟨h1, h2, h3, h4, h5, h6, h7, h8, h9⟩ := h
  have e : ∀ c j, ¬ (c = 4 ∧ j = k + 2) → setT T (k + 2) v c j = T c j := fun c j h => if_neg h
  refine ⟨by rw [gIa (by decide)]; exact h1, by rw [gIa (by decide)]; exact h2, ?_, ?_, ?_, fun j hj => ?_, fun j hj => ?_, by rw [gIa (by decide)]; exact h8, fun j hj => ?_⟩
  · rcases hk with rfl | rfl
    · rw [gIs]; exact (if_pos ⟨rfl, rfl⟩).symm
    · rw [gIk (by decide), e _ _ (by omega)]; exact h3
  · rcases hk with rfl | rfl
    · rw [gIk (by decide), e _ _ (by omega)]; exact h4
    · rw [gIs]; exact (if_pos ⟨rfl, rfl⟩).symm
  · rcases hk with rfl | rfl
    · rw [gIk (by decide), e _ _ (by omega)]; exact h5
    · rw [gIk (by decide), e _ _ (by omega)]; exact h5
  · rw [gIa (by decide), gIa (by decide), e _ _ (by omega), e _ _ (by omega)]; exact h6 j hj
  · rw [gIa (by decide), gIa (by decide), e _ _ (by omega), e _ _ (by omega)]; exact h7 j hj
  · rw [gIa (by decide), e _ _ (by omega)]; exact h9 j hj
theorem MG_set {w : Wd} {T : Tw} {b : Bl} {r p N : Nat} (g : MG w T b r p N) (k : Nat) (v : Int32) (hk : k = 0 ∨ k = 1) : MG (sI w 94 k v) (setT T (k + 2) v) b r p N := ⟨okTw_set g.1 _ v (by omega), MT_set g.2.1 k v hk, (rM_ext (w := w) (w2 := sI w 94 k v) (a := 95) (a2 := 95) (fun j _ => gIa (by decide))).trans g.2.2.1, g.2.2.2⟩
/-- put back, it is as it was -/
theorem Fm_back {q : Nat → Nat → Prop} {w w1 w2 : Wd} {k : Nat} {v : Int32} (h0 : Fm q w w1) (hq : ¬ q 94 k) (h : Fm q (sI w1 94 k v) w2) : Fm q w (sI w2 94 k (gI w 94 k)) := fun a j ha => by
  obtain ⟨a1, a2, a3⟩ := h a j ha
  obtain ⟨b1, b2, b3⟩ := h0 a j ha
  refine ⟨?_, a2.trans b2, a3.trans b3⟩
  by_cases hk : a = 94 ∧ j = k
  · rw [hk.1, hk.2, gIs]
  · rw [gI_sI]
    by_cases h94 : a = 94
    · rw [if_pos h94, if_neg (fun e => hk ⟨h94, e⟩), a1, gI_sI, if_pos h94, if_neg (fun e => hk ⟨h94, e⟩)]
      exact b1
    · rw [if_neg h94, a1, gIa h94]
      exact b1
theorem v_X11_frozen {F : Nat} (hF : 2000 ≤ F) {w : Wd} {T : Tw} {b : Bl} {r p N : Nat} (g : MG w T b r p N) (x : Int32) : AskM (P_X11_frozen F w x) (qFrozen T b x) w := by
  unfold P_X11_frozen qFrozen
  rw [lt_v, in_r F _ x 0 9]
  refine askM_r fm_t0 (fun h1 h2 => ?_)
  have g0 := MG_QN g fm_t0
  obtain ⟨w1, a1, a2⟩ := m_able hF (MG_set g0 1 x (.inr rfl))
  simp only [gd1, GL, lt_v]
  rw [bnd_r a1, bnd_r (v_bc F _ _), show gI (sI w 88 0 0) 94 1 = gI w 94 1 from gIa (by decide)]
  have f1 : Fm QN w (sI w1 94 1 (gI w 94 1)) := Fm_back (q := QN) fm_t0 (by unfold QN; omega) (a2.imp (fun _ _ h => Sc_QN h))
  exact am_1 f1 _ _ (fun w3 f1' f2 => am_t f1 f1' f2)
def hvX (T : Tw) (b : Bl) (n : Nat) (k : Nat) (_ : Unit) : Sum Nat Unit := if alone (setT T 2 (nI k)) b (b 8) n = n then .inl k else .inr ()
def qHeaviest (T : Tw) (b : Bl) (x : Int32) : Ans := qR x 1 120 (match foldD (hvX T b x.toNatClampNeg) 30 () with
  | .inl k => (nI k, none)
  | .inr _ => (-2, none))
theorem setT_set (T : Tw) (k : Nat) (u v : Int32) : setT (setT T k u) k v = setT T k v := by
  funext c j
  unfold setT
  split
  · rfl
  · rfl
theorem setR_same (b : Bl) : setR b (b 8) = b := by
  funext k
  show (if k = 8 then b 8 else b k) = b k
  split
  · rename_i h; rw [h]
  · rfl
def GSP (b : Nat) : Prop := SP b ∨ GP b
theorem v_X10_heaviest {F : Nat} (hF : 2000 ≤ F) {w : Wd} (s : St w) (x : Int32) : AskC (P_X10_heaviest F w x) (qHeaviest (tC w 5) (bC w 23) x) w := by
  unfold P_X10_heaviest qHeaviest
  refine askC_r (fun h1 h2 => ?_)
  obtain ⟨n, hn1, hn2, rfl⟩ := rng h1 h2 (A := 1) (B := 120)
  rw [nI_clamp (by omega)]
  obtain ⟨w1, a1, a2, a3, a4⟩ := v_X9_setAs F w s.1
  rw [bnv_r a1]
  have h17 : ∀ b, SP b → b ≠ 17 := fun b h => by unfold SP Scr at h; omega
  rcases lpD (fun m w (_ : Unit) k => L_X10_heaviest_27 F (nI n) (fun w  => some ((-2), w)) m w k) (fun w _ => some ((-2), w)) (fun u (o : Nat) => some (nI o, u)) (hvX (tC w 5) (bC w 23) n) (fun u _ k => Fr GSP w u ∧ okT u 17 ∧ (∃ v, tC u 17 = setT (tC w 5) 2 v) ∧ bC u 23 = bC w 23 ∧ k ≤ 30) (fun u _ => Fr GSP w u)
    (fun m u b hI => by
      show L_X10_heaviest_27 F (nI n) _ (m + 1) u _ = _
      rw [L_X10_heaviest_27, if_pos (by decide)])
    (fun m u b k _ hI => by
      obtain ⟨hI1, hI2, ⟨v, hI3⟩, hI4, hI5⟩ := hI
      show (∃ w2 t, _ ∧ L_X10_heaviest_27 F (nI n) _ (m + 1) u _ = L_X10_heaviest_27 F (nI n) _ m w2 _ ∧ _) ∨ (∃ w2 o, _ ∧ L_X10_heaviest_27 F (nI n) _ (m + 1) u _ = _ ∧ _)
      obtain ⟨b1, b2, b3⟩ := guess_set hI2 3 (nI (k + 1)) (.inl rfl)
      rw [hI3, setT_set] at b3
      obtain ⟨u1, c1, c2, -⟩ := sim_start (F := F) (by omega) (w := sI u 17 3 (nI (k + 1))) (w1 := sI u 17 3 (nI (k + 1))) Fr.rfl'
      obtain ⟨u2, d1, d2, -⟩ := sim_rungOn hF 17 b2 c2 n (by omega)
      rw [L_X10_heaviest_27, if_neg (show ¬ nI (k + 1) < 1 from nI_nlt (a := k + 1) (b := 1) (by omega) (by omega)), lt_v, bnv_r c1, bnd_r d1]
      have f2 : Fr GSP w u2 := (hI1.tr (b1.imp (fun _ h => Or.inr h)) (fun _ h => h) (fun _ h => h)).tr (d2.1.imp (fun _ h => Or.inl h)) (fun _ h => h) (fun _ h => h)
      have e23 : bC (sI u 17 3 (nI (k + 1))) 23 = bC w 23 := by rw [← hI4]; exact bC_fr b1 (by unfold GP; omega) (by unfold GP; omega)
      rw [b3, e23]
      have ea : alone (setT (tC w 5) 2 (nI (k + 1))) (bC w 23) (bC w 23 8) n = (rgo (setT (tC w 5) (3 - 1) (nI (k + 1))) n (bC w 23)).1 := by
        unfold alone
        rw [setR_same]
      have hle := rgo_le (setT (tC w 5) (3 - 1) (nI (k + 1))) n (bC w 23)
      unfold hvX
      rw [ea]
      by_cases c : (rgo (setT (tC w 5) (3 - 1) (nI (k + 1))) n (bC w 23)).1 = n
      · rw [if_pos c, if_pos (by rw [c])]
        exact .inr ⟨u2, k + 1, rfl, rfl, f2⟩
      · rw [if_neg c, if_neg (fun e => c ((nI_eq (by omega) (by omega)).mp e)), lt_v, pk_m1]
        refine .inl ⟨u2, (), rfl, rfl, f2, okT_fr Kp_SP d2.1 b2, ⟨nI (k + 1), ?_⟩, ?_, by omega⟩
        · rw [tC_fr Kp_SP d2.1 b2, b3]
        · rw [bC_fr d2.1 (by unfold SP Scr; omega) (by unfold SP Scr; omega), e23])
    30 F (by omega) w1 () ⟨a2.imp (fun _ h => Or.inr h), a3, ⟨tC w 5 4 2, by rw [a4]; funext c j; unfold setT; split; rename_i h; rw [h.1, h.2]; rfl⟩, bC_fr a2 (by unfold GP; omega) (by unfold GP; omega), by omega⟩ with ⟨w2, t, e1, e2, e3⟩ | ⟨w2, o, e1, e2, e3⟩
  · rw [e1, show L_X10_heaviest_27 F (nI n) _ F _ 30 = _ from e2]
    exact ask_n e3.1 (fun b h => by rcases h with h | h; exact SP_n h; exact ⟨GP_QP h, by unfold GP at h; omega, by unfold GP at h; omega⟩)
  · rw [e1, show L_X10_heaviest_27 F (nI n) _ F _ 30 = _ from e2]
    exact ask_n e3 (fun b h => by rcases h with h | h; exact SP_n h; exact ⟨GP_QP h, by unfold GP at h; omega, by unfold GP at h; omega⟩)
theorem sI_sI (u : Wd) (a k : Nat) (x v : Int32) : sI (sI u a k x) a k v = sI u a k v := by
  unfold sI
  refine Prod.ext ?_ rfl
  funext b
  show va_up (va_up u.1 a (upd (u.1 a) k x)) a (upd (va_up u.1 a (upd (u.1 a) k x) a) k v) b = va_up u.1 a (upd (u.1 a) k v) b
  unfold va_up
  by_cases h : b = a
  · rw [if_pos h, if_pos h, if_pos rfl]
    funext j
    unfold upd
    by_cases hj : j = k
    · rw [if_pos hj, if_pos hj]
    · rw [if_neg hj, if_neg hj, if_neg hj]
  · rw [if_neg h, if_neg h, if_neg h]
theorem v_X11_heaviest {F : Nat} (hF : 2000 ≤ F) {w : Wd} {T : Tw} {b : Bl} {r p N : Nat} (g : MG w T b r p N) (hc : okRp b r) (x : Int32) : AskM (P_X11_heaviest F w x) (qHeaviest T b x) w := by
  obtain ⟨s, hs, es⟩ := hc
  unfold P_X11_heaviest qHeaviest
  rw [lt_v, in_r F _ x 1 120]
  refine askM_r fm_t0 (fun h1 h2 => ?_)
  obtain ⟨n, hn1, hn2, rfl⟩ := rng h1 h2 (A := 1) (B := 120)
  rw [nI_clamp (by omega)]
  simp only [gd1, GL, lt_v]
  rw [show gI (sI w 88 0 0) 94 0 = gI w 94 0 from gIa (by decide)]
  have q94 : ¬ QN 94 0 := by unfold QN; omega
  have b0 : Fm QN w (sI (sI w 88 0 0) 94 0 (gI w 94 0)) := by
    have := Fm_back (q := QN) (v := 0) (fm_t0 (w := w)) q94 (w2 := sI (sI w 88 0 0) 94 0 0) Fm.rfl'
    rwa [sI_sI] at this
  generalize hX : gI w 94 0 = X at *
  rcases lpD (fun m w (_ : Unit) k => L_X11_heaviest_33 F (nI n) X (fun w x11 => some (x11, sI w 94 0 X)) m w (-2) k) (fun w _ => some ((-2), sI w 94 0 X)) (fun u (o : Nat) => some (nI o, sI u 94 0 X)) (hvX T b n) (fun u _ k => Fm QN w (sI u 94 0 X) ∧ k ≤ 30) (fun u _ => Fm QN w (sI u 94 0 X))
    (fun m u c hI => by
      show L_X11_heaviest_33 F (nI n) X _ (m + 1) u _ _ = _
      rw [L_X11_heaviest_33, if_pos (by decide)])
    (fun m u c k hm hI => by
      obtain ⟨hI1, hI2⟩ := hI
      obtain ⟨m, rfl⟩ : ∃ q, m = q + 1 := ⟨m - 1, by omega⟩
      show (∃ w2 t, _ ∧ L_X11_heaviest_33 F (nI n) X _ (m + 1 + 1) u _ _ = L_X11_heaviest_33 F (nI n) X _ (m + 1) w2 _ _ ∧ _) ∨ (∃ w2 o, _ ∧ L_X11_heaviest_33 F (nI n) X _ (m + 1 + 1) u _ _ = _ ∧ _)
      have g1 : MG (sI u 94 0 (nI (k + 1))) (setT T 2 (nI (k + 1))) b r p N := by
        have g0 := MG_set (MG_QN g hI1) 0 (nI (k + 1)) (.inl rfl)
        rw [sI_sI] at g0
        exact g0
      have e8 : gI (sI u 94 0 (nI (k + 1))) 95 8 = nI s := by rw [← es, ← g1.2.2.1, rM_k (by decide)]
      obtain ⟨u2, d1, d2⟩ := ms_rungBy hF g1 Fm.rfl' s hs n (by omega)
      have f2 : Fm QN w (sI u2 94 0 X) := by
        have h0 := Fm_back (q := QN) (v := nI (k + 1)) hI1 q94 (w2 := u2) (by rw [sI_sI]; exact d2)
        rwa [hX] at h0
      rw [L_X11_heaviest_33, if_neg (show ¬ nI (k + 1) < 1 from nI_nlt (a := k + 1) (b := 1) (by omega) (by omega)), if_neg (by decide)]
      rw [gd_t (show inB 0 3 = true from rfl), lt_v, gd_t (show inB 8 16 = true from rfl), e8, bnd_r d1, lt_v, lt_v, pk_m1]
      have hle := alone_le (setT T 2 (nI (k + 1))) b (nI s) n
      unfold hvX
      rw [es]
      by_cases c : alone (setT T 2 (nI (k + 1))) b (nI s) n = n
      · rw [if_pos c, if_pos (by rw [c])]
        refine .inr ⟨u2, k + 1, rfl, ?_, f2⟩
        rw [L_X11_heaviest_33]
        by_cases hk : nI k < 1
        · rw [if_pos hk]
        · rw [if_neg hk, if_pos (nI_pos' (by omega))]
      · rw [if_neg c, if_neg (fun e => c ((nI_eq (by omega) (by omega)).mp e))]
        exact .inl ⟨u2, (), rfl, rfl, f2, by omega⟩)
    30 F (by omega) (sI w 88 0 0) () ⟨b0, by omega⟩ with ⟨w2, t, e1, e2, e3⟩ | ⟨w2, o, e1, e2, e3⟩
  · rw [e1, show L_X11_heaviest_33 F (nI n) X _ F (sI w 88 0 0) (-2) 30 = _ from e2]
    exact am_n e3.1
  · rw [e1, show L_X11_heaviest_33 F (nI n) X _ F (sI w 88 0 0) (-2) 30 = _ from e2]
    exact am_n e3
