-- ===== team, on the model's side =====
theorem bc_all : ∀ j : Nat, j < 256 → (∃ c : Nat, c ≤ 8 ∧ bc (nI j) = nI c) ∧ (1 ≤ j → ¬ bc (nI j) ≤ 0) := by
  intro j hj
  have h : ∀ j : Nat, j < 256 → bc (nI j) = nI (bc (nI j)).toNatClampNeg ∧ (bc (nI j)).toNatClampNeg ≤ 8 ∧ (1 ≤ j → ¬ bc (nI j) ≤ 0) := by decide +kernel
  obtain ⟨a, b, c⟩ := h j hj
  exact ⟨⟨_, b, a⟩, c⟩
/-- the best team of any size, so far -/
def tmp (T : Tw) (b : Bl) (n : Nat) (j : Nat) (x : Int32) : Int32 :=
  if bc (nI j) ≤ 3 ∧ (x < 0 ∨ bc (nI j) < bc x ∨ (bc (nI j) = bc x ∧ feesT T (nI j) < feesT T x)) ∧ alone T b (nI j) n = n then nI j else x
/-- a best team of a size: none, or a number of so many bits -/
def okC (i : Nat) (c : Int32) : Prop := c = 0 ∨ ∃ s : Nat, 1 ≤ s ∧ s < 256 ∧ c = nI s ∧ bc (nI s) = nI i
def pick (c1 c2 c3 : Int32) : Int32 := if c1 = 0 then if c2 = 0 then if c3 = 0 then -1 else c3 else c2 else c1
theorem nI_s0 {s : Nat} (h1 : 1 ≤ s) (h2 : s < 256) : ¬ nI s = 0 := nI_ne0 (by omega) (by omega)
theorem cht_s (T : Tw) (b : Bl) (size n j : Nat) (x : Int32) (m : Nat) : cht T b size n (m + 1) j x = cht T b size n m (j + 1) (if bc (nI j) = nI size ∧ (x = 0 ∨ feesT T (nI j) < feesT T x) ∧ alone T b (nI j) n = n then nI j else x) := rfl
theorem okC_s {T : Tw} {b : Bl} {n j i : Nat} {x : Int32} (hj1 : 1 ≤ j) (hj2 : j < 256) (h : okC i x) : okC i (if bc (nI j) = nI i ∧ (x = 0 ∨ feesT T (nI j) < feesT T x) ∧ alone T b (nI j) n = n then nI j else x) := by
  split
  · rename_i q; exact .inr ⟨j, hj1, hj2, rfl, q.1⟩
  · exact h
theorem tm_step {T : Tw} {b : Bl} {n j : Nat} {c1 c2 c3 : Int32} (hj1 : 1 ≤ j) (hj2 : j < 256) (h1 : okC 1 c1) (h2 : okC 2 c2) (h3 : okC 3 c3) :
    tmp T b n j (pick c1 c2 c3) = pick (if bc (nI j) = nI 1 ∧ (c1 = 0 ∨ feesT T (nI j) < feesT T c1) ∧ alone T b (nI j) n = n then nI j else c1) (if bc (nI j) = nI 2 ∧ (c2 = 0 ∨ feesT T (nI j) < feesT T c2) ∧ alone T b (nI j) n = n then nI j else c2) (if bc (nI j) = nI 3 ∧ (c3 = 0 ∨ feesT T (nI j) < feesT T c3) ∧ alone T b (nI j) n = n then nI j else c3) := by
  obtain ⟨⟨s, hs, es⟩, hp⟩ := bc_all j hj2
  have hp1 := hp hj1
  have hj0 := nI_s0 hj1 hj2
  unfold tmp
  rw [es] at hp1 ⊢
  have hs1 : 1 ≤ s := by
    rcases Nat.eq_zero_or_pos s with rfl | h
    · exact absurd (Int32.le_refl _) hp1
    · exact h
  have eqs : ∀ i : Nat, i ≤ 8 → (nI s = nI i ↔ s = i) := fun i hi => nI_eq (by omega) (by omega)
  have le3 : nI s ≤ 3 ↔ s ≤ 3 := nI_leI (a := s) (b := 3) (by omega) (by omega)
  have nn : ∀ x : Nat, x < 256 → ¬ nI x < 0 := fun x hx => nI_pos (by omega)
  by_cases ha : alone T b (nI j) n = n
  · -- it rings
    rcases h1 with rfl | ⟨s1, a1, a2, rfl, a4⟩
    · rcases h2 with rfl | ⟨s2, b1, b2, rfl, b4⟩
      · rcases h3 with rfl | ⟨s3, d1, d2, rfl, d4⟩
        · simp only [pick, if_true, eqs 1 (by omega), eqs 2 (by omega), eqs 3 (by omega), le3, ha]
          by_cases hq : s ≤ 3
          · rcases (show s = 1 ∨ s = 2 ∨ s = 3 by omega) with rfl | rfl | rfl <;> simp [hj0, show (-1 : Int32) < 0 by decide]
          · simp [hq, show ¬ s = 1 by omega, show ¬ s = 2 by omega, show ¬ s = 3 by omega]
        · have z := nI_s0 d1 d2
          simp only [pick, if_true, if_neg z, eqs 1 (by omega), eqs 2 (by omega), eqs 3 (by omega), le3, ha, d4, nI_ltI (show s < 2 ^ 31 by omega) (show 3 < 2 ^ 31 by omega), nn s3 d2]
          by_cases hq : s ≤ 3
          · rcases (show s = 1 ∨ s = 2 ∨ s = 3 by omega) with rfl | rfl | rfl
            · simp [hj0, z]
            · simp [hj0, z]
            · simp only [z, false_or, true_and, and_true, Nat.lt_irrefl, Nat.le_refl]
              by_cases hf : feesT T (nI j) < feesT T (nI s3)
              · simp [hf, hj0]
              · simp [hf, z]
          · simp [hq, z, show ¬ s = 1 by omega, show ¬ s = 2 by omega, show ¬ s = 3 by omega]
      · have z := nI_s0 b1 b2
        simp only [pick, if_true, if_neg z, eqs 1 (by omega), eqs 2 (by omega), eqs 3 (by omega), le3, ha, b4, nI_ltI (show s < 2 ^ 31 by omega) (show 2 < 2 ^ 31 by omega), nn s2 b2]
        by_cases hq : s ≤ 3
        · rcases (show s = 1 ∨ s = 2 ∨ s = 3 by omega) with rfl | rfl | rfl
          · simp [hj0, z]
          · simp only [z, false_or, true_and, and_true, Nat.lt_irrefl]
            by_cases hf : feesT T (nI j) < feesT T (nI s2)
            · simp [hf, hj0]
            · simp [hf, z]
          · simp [z]
        · simp [hq, z, show ¬ s = 1 by omega, show ¬ s = 2 by omega, show ¬ s = 3 by omega]
    · have z := nI_s0 a1 a2
      simp only [pick, if_neg z, eqs 1 (by omega), eqs 2 (by omega), eqs 3 (by omega), le3, ha, a4, nI_ltI (show s < 2 ^ 31 by omega) (show 1 < 2 ^ 31 by omega), nn s1 a2]
      by_cases hq : s = 1
      · subst hq
        simp only [z, false_or, true_and, and_true, Nat.lt_irrefl]
        by_cases hf : feesT T (nI j) < feesT T (nI s1)
        · simp [hf, hj0]
        · simp [hf, z]
      · simp [hq, z, show ¬ s < 1 by omega]
  · simp only [ha, and_false, if_false]
theorem tm_all {T : Tw} {b : Bl} {n : Nat} : ∀ m j c1 c2 c3, 1 ≤ j → j + m ≤ 256 → okC 1 c1 → okC 2 c2 → okC 3 c3 → foldU (tmp T b n) m j (pick c1 c2 c3) = pick (cht T b 1 n m j c1) (cht T b 2 n m j c2) (cht T b 3 n m j c3) ∧ okC 1 (cht T b 1 n m j c1) ∧ okC 2 (cht T b 2 n m j c2) ∧ okC 3 (cht T b 3 n m j c3) := by
  intro m
  induction m with
  | zero => intro j c1 c2 c3 _ _ h1 h2 h3; exact ⟨rfl, h1, h2, h3⟩
  | succ m ih =>
    intro j c1 c2 c3 hj hm h1 h2 h3
    show foldU (tmp T b n) m (j + 1) (tmp T b n j (pick c1 c2 c3)) = _ ∧ _
    rw [tm_step hj (by omega) h1 h2 h3, cht_s, cht_s, cht_s]
    exact ih (j + 1) _ _ _ (by omega) (by omega) (okC_s hj (by omega) h1) (okC_s hj (by omega) h2) (okC_s hj (by omega) h3)
theorem nI_not {x : Nat} (h : x < 2 ^ 31) : (0 : Int32) ≤ nI x := nI_pos' h
def okX (r : Nat) (x : Int32) : Prop := x = -1 ∨ ∃ s : Nat, s < 2 ^ r ∧ x = nI s
theorem v_X11_team {F : Nat} (hF : 2000 ≤ F) {w : Wd} {T : Tw} {b : Bl} {r p N : Nat} (g : MG w T b r p N) (x : Int32) : AskM (P_X11_team F w x) (qTeam T b x) w := by
  have hr := g.1.1
  have hp := pow8 hr
  have enr : nr T = r := by unfold nr; rw [g.1.2.2.1, nI_clamp (by omega)]
  unfold P_X11_team
  rw [lt_v, in_r F _ x 1 120]
  show AskM _ (qR x 1 120 _) w
  refine askM_r fm_t0 (fun h1 h2 => ?_)
  obtain ⟨n, hn1, hn2, rfl⟩ := rng h1 h2 (A := 1) (B := 120)
  rw [nI_clamp (by omega)]
  have fee : ∀ (u : Wd), Fm QM w u → ∀ s, P_X11_sumOf F u s 91 = some (feesT T s, u) := fun u hu s => m_fee (by omega) g.1 (MG_QM g hu).2.1 s
  obtain ⟨w2, e1, e2, e3⟩ := lpG (fun m w (s : Int32) i => L_X11_team_23 F (nI n) (fun w x8 => (if (0 : Int32) ≤ x8 then lt (sI w 88 1 0) (fun w60 => bnv (P_X11_enters F w60 (Int32.toInt64 x8)) (fun w61 => bnd (P_X11_sumOf F w61 x8 91) (fun x63 w62 => bnv (P_X11_enters F w62 (Int32.toInt64 x63)) (fun w64 => bnd (P_J6_bitCount_0f7a4 F w64 x8) (fun x66 w65 => some (x66, w65)))))) else some ((-2), w))) m w s i)
    (fun w x8 => (if (0 : Int32) ≤ x8 then lt (sI w 88 1 0) (fun w60 => bnv (P_X11_enters F w60 (Int32.toInt64 x8)) (fun w61 => bnd (P_X11_sumOf F w61 x8 91) (fun x63 w62 => bnv (P_X11_enters F w62 (Int32.toInt64 x63)) (fun w64 => bnd (P_J6_bitCount_0f7a4 F w64 x8) (fun x66 w65 => some (x66, w65)))))) else some ((-2), w)))
    (tmp T b n) (fun u s j => Fm QN w u ∧ okX r s) (2 ^ r)
    (fun m u s hI => by
      have e6 := (MG_QN g hI.1).2.1.1
      show L_X11_team_23 F (nI n) _ (m + 1) u _ _ = _
      rw [L_X11_team_23, e6, shl_pow r hr, if_pos (Int32.le_refl _)])
    (fun m u s j hj hI => by
      have e6 := (MG_QN g hI.1).2.1.1
      show ∃ w2, L_X11_team_23 F (nI n) _ (m + 1) u _ _ = L_X11_team_23 F (nI n) _ m w2 _ _ ∧ _
      rw [L_X11_team_23, e6, shl_pow r hr, if_neg (nI_ge (by omega) (by omega)), bnd_r (v_bc F u _)]
      obtain ⟨⟨cj, hcj, ecj⟩, -⟩ := bc_all j (by omega)
      have fe := fee u (hI.1.imp (fun _ _ h => .inl h))
      -- not taken
      have no : ∀ K : Wd → Int32 → Int32 → Option (Int32 × Wd), ¬ (bc (nI j) ≤ 3 ∧ (s < 0 ∨ bc (nI j) < bc s ∨ (bc (nI j) = bc s ∧ feesT T (nI j) < feesT T s)) ∧ alone T b (nI j) n = n) → K u s (nI j + 1) = K u (tmp T b n j s) (nI (j + 1)) := fun K hq => by
        unfold tmp; rw [if_neg hq, nI_1]
      have tk : ∀ (K : Wd → Int32 → Int32 → Option (Int32 × Wd)), bc (nI j) ≤ 3 → (s < 0 ∨ bc (nI j) < bc s ∨ (bc (nI j) = bc s ∧ feesT T (nI j) < feesT T s)) → ∃ w2, bnd (P_X11_rungBy F u (nI j) (nI n)) (fun x35 w34 => lt (if x35 = nI n then nI j else s : Int32) (fun x37 => lt (nI j + 1 : Int32) (fun x38 => K w34 x37 x38))) = K w2 (tmp T b n j s) (nI (j + 1)) ∧ Fm QN w w2 ∧ okX r (tmp T b n j s) := fun K q1 q2 => by
        obtain ⟨u2, f1, f2⟩ := ms_rungBy hF g hI.1 j hj n (by omega)
        have hle := alone_le T b (nI j) n
        rw [bnd_r f1, lt_v, lt_v, nI_1]
        unfold tmp
        by_cases ha : alone T b (nI j) n = n
        · rw [if_pos (by rw [ha]), if_pos ⟨q1, q2, ha⟩]
          exact ⟨u2, rfl, f2, .inr ⟨j, hj, rfl⟩⟩
        · rw [if_neg (fun e => ha ((nI_eq (by omega) (by omega)).mp e)), if_neg (fun h => ha h.2.2)]
          exact ⟨u2, rfl, f2, hI.2⟩
      have okn : okX r (tmp T b n j s) := by
        unfold tmp
        split
        · exact .inr ⟨j, hj, rfl⟩
        · exact hI.2
      have g3 : (3 : Int32) < bc (nI j) ↔ ¬ bc (nI j) ≤ 3 := Int32.not_le.symm
      unfold K_X11_team_54 K_X11_team_87 K_X11_team_91 K_X11_team_92 K_X11_team_119 K_X11_team_120
      simp only [lt_v, v_bc, bnd_s, fe]
      rcases hI.2 with hs | ⟨s0, hs0, hs⟩
      · rw [if_neg (by rw [hs]; decide), if_pos (by decide)]
        have hs2 : s < 0 := by rw [hs]; decide
        by_cases h3 : bc (nI j) ≤ 3
        · rw [if_neg (Int32.not_lt.mpr h3), if_neg (by decide)]
          exact tk _ h3 (.inl hs2)
        · rw [if_pos (Int32.not_le.mp h3)]
          exact ⟨u, no _ (fun h => h3 h.1), hI.1, okn⟩
      · have hn0 : ¬ s < 0 := by rw [hs]; exact nI_pos (by omega)
        rw [if_pos (by rw [hs]; exact nI_pos' (by omega))]
        obtain ⟨⟨cs, hcs, ecs⟩, -⟩ := bc_all s0 (by omega)
        rw [← hs] at ecs
        have q1 : bc (nI j) - bc s < 0 ↔ bc (nI j) < bc s := by
          rw [ecj, ecs, Int32.lt_iff_toInt_lt, Int32.lt_iff_toInt_lt, pk_sub_toInt (by omega) (by omega), nI_toInt (by omega), nI_toInt (by omega)]
          have e2 : (0 : Int32).toInt = 0 := by decide
          omega
        have q2 : bc (nI j) - bc s = 0 ↔ bc (nI j) = bc s := by
          rw [ecj, ecs, nI_eq (by omega) (by omega)]
          refine ⟨fun h => ?_, fun h => by rw [h, Int32.sub_self]⟩
          have := congrArg Int32.toInt h
          rw [pk_sub_toInt (by omega) (by omega)] at this
          have e2 : (0 : Int32).toInt = 0 := by decide
          omega
        by_cases c1 : bc (nI j) < bc s
        · rw [if_pos (q1.mpr c1)]
          by_cases h3 : bc (nI j) ≤ 3
          · rw [if_neg (Int32.not_lt.mpr h3), if_neg (by decide)]
            exact tk _ h3 (.inr (.inl c1))
          · rw [if_pos (Int32.not_le.mp h3)]
            exact ⟨u, no _ (fun h => h3 h.1), hI.1, okn⟩
        · rw [if_neg (fun h => c1 (q1.mp h))]
          by_cases c2 : bc (nI j) = bc s
          · rw [if_pos (q2.mpr c2)]
            by_cases h3 : bc (nI j) ≤ 3
            · rw [if_neg (Int32.not_lt.mpr h3)]
              by_cases c3 : feesT T s ≤ feesT T (nI j)
              · rw [if_pos c3, if_pos rfl]
                exact ⟨u, no _ (fun h => by rcases h.2.1 with h | h | h; exact hn0 h; exact c1 h; exact absurd c3 (Int32.not_le.mpr h.2)), hI.1, okn⟩
              · rw [if_neg c3, if_neg (by decide)]
                exact tk _ h3 (.inr (.inr ⟨c2, Int32.not_le.mp c3⟩))
            · rw [if_pos (Int32.not_le.mp h3)]
              exact ⟨u, no _ (fun h => h3 h.1), hI.1, okn⟩
          · rw [if_neg (fun h => c2 (q2.mp h))]
            have nn : ¬ (bc (nI j) ≤ 3 ∧ (s < 0 ∨ bc (nI j) < bc s ∨ (bc (nI j) = bc s ∧ feesT T (nI j) < feesT T s)) ∧ alone T b (nI j) n = n) := fun h => by rcases h.2.1 with h | h | h; exact hn0 h; exact c1 h; exact c2 h.1
            by_cases h3 : bc (nI j) ≤ 3
            · rw [if_neg (Int32.not_lt.mpr h3), if_pos trivial]
              exact ⟨u, no _ nn, hI.1, okn⟩
            · rw [if_pos (Int32.not_le.mp h3)]
              exact ⟨u, no _ nn, hI.1, okn⟩)
    (2 ^ r - 1) 1 (by omega) F (by omega) (sI w 88 0 0) (-1) ⟨fm_t0, .inl rfl⟩
  rw [show L_X11_team_23 F (nI n) _ F (sI w 88 0 0) (-1) 1 = _ from e1]
  obtain ⟨t1, t2, t3, t4⟩ := tm_all (T := T) (b := b) (n := n) (2 ^ r - 1) 1 0 0 0 (by omega) (by omega) (.inl rfl) (.inl rfl) (.inl rfl)
  rw [show pick 0 0 0 = -1 from rfl] at t1
  rw [t1] at e3 ⊢
  unfold teamT
  rw [enr]
  have fin : ∀ (i : Nat) (c : Int32), okC i c → ¬ c = 0 → AskM (if (0 : Int32) ≤ c then lt (sI w2 88 1 0) (fun w60 => bnv (P_X11_enters F w60 (Int32.toInt64 c)) (fun w61 => bnd (P_X11_sumOf F w61 c 91) (fun x63 w62 => bnv (P_X11_enters F w62 (Int32.toInt64 x63)) (fun w64 => bnd (P_J6_bitCount_0f7a4 F w64 c) (fun x66 w65 => some (x66, w65)))))) else some ((-2), w2)) (nI i, some [i64 c, i64 (feesT T c)]) w := by
    intro i c hc h0
    rcases hc with h | ⟨s, hs1, hs2, rfl, hs4⟩
    · exact absurd h h0
    · rw [if_pos (nI_pos' (by omega)), lt_v]
      obtain ⟨u2, d1, d2, d3⟩ := v_X11_enters F (w := sI w2 88 1 0) tlM_0 (by decide) (Int32.toInt64 (nI s))
      have d4 := (show Fm Tm w2 _ from Fm.rfl'.sI (.inl ⟨rfl, rfl⟩)).tr d2
      obtain ⟨u3, h1, h2, h3⟩ := v_X11_enters F (L := [_]) d3 (show 1 < 24 by decide) (Int32.toInt64 (feesT T (nI s)))
      rw [bnv_r d1, bnd_r (fee u2 ((e2.imp (fun _ _ h => .inl h)).tr (d4.imp (fun _ _ h => .inr h))) _), bnv_r h1, bnd_r (v_bc F u3 _), hs4]
      exact am_t e2 (d4.tr h2) h3
  generalize cht T b 1 n (2 ^ r - 1) 1 0 = c1 at *
  generalize cht T b 2 n (2 ^ r - 1) 1 0 = c2 at *
  generalize cht T b 3 n (2 ^ r - 1) 1 0 = c3 at *
  unfold pick
  by_cases z1 : c1 = 0
  · rw [if_pos z1, if_pos z1]
    by_cases z2 : c2 = 0
    · rw [if_pos z2, if_pos z2]
      by_cases z3 : c3 = 0
      · rw [if_pos z3, if_pos z3]
        show AskM (if (0 : Int32) ≤ -1 then _ else _) (-2, none) w
        rw [if_neg (by decide)]
        exact am_n e2
      · rw [if_neg z3, if_neg z3]
        exact fin 3 c3 t4 z3
    · rw [if_neg z2, if_neg z2]
      exact fin 2 c2 t3 z2
  · rw [if_neg z1, if_neg z1]
    exact fin 1 c1 t2 z1
