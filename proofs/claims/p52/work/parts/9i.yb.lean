-- ===== rule, law: the class =====
/-- the other law lies there, and it isn't the valid one -/
def spC (w : Wd) : Prop := isX2 (gR w 0 4) = true ∧ ¬ gR w 0 4 = gR w 5 2
/-- one tower, but for its rule, is as another -/
def NewR (T T' : Tw) (M : List Int32) : Prop := (∀ c, c < 5 → T' c = T c) ∧ T' 6 0 = nI M.length ∧ ∀ k, k < M.length → T' 5 k = cdL M k
theorem tC_k0 (w : Wd) (t k : Nat) : tC w t 0 k = rol w 6 7 k := rfl
theorem tC_k1 (w : Wd) (t k : Nat) : tC w t 1 k = rol w 6 8 k := rfl
theorem tC_k2 (w : Wd) (t k : Nat) : tC w t 2 k = rol w 9 10 k := rfl
theorem tC_k3 (w : Wd) (t k : Nat) : tC w t 3 k = rol w 9 11 k := rfl
theorem tC_k40 (w : Wd) (t : Nat) : tC w t 4 0 = gI w 6 2 := rfl
theorem tC_k41 (w : Wd) (t : Nat) : tC w t 4 1 = gI w 9 2 := rfl
theorem tC_k42 (w : Wd) (t : Nat) : tC w t 4 2 = gI w t 3 := rfl
theorem tC_k43 (w : Wd) (t : Nat) : tC w t 4 3 = gI w t 4 := rfl
theorem tC_k44 (w : Wd) (t : Nat) : tC w t 4 4 = gI w t 5 := rfl
theorem tC_k45 (w : Wd) (t k : Nat) : tC w t 4 (k + 5) = 0 := rfl
theorem tC_k5 (w : Wd) (t k : Nat) : tC w t 5 k = cde w (gR w t 2) k := rfl
theorem tC_k6 (w : Wd) (t k : Nat) : tC w t 6 k = gI w (gR w t 2) 1 := rfl
theorem tC_k7 (w : Wd) (t c k : Nat) : tC w t (c + 7) k = 0 := rfl
theorem tC_lo {w w2 : Wd} {t t2 : Nat} (et : ∀ k, k = 3 ∨ k = 4 ∨ k = 5 → gI w2 t2 k = gI w t k) (e : ∀ b k, 6 ≤ b → b ≤ 11 → gI w2 b k = gI w b k) : ∀ c, c < 5 → tC w2 t2 c = tC w t c := by
  have er : ∀ a q k, 6 ≤ a → a ≤ 11 → 6 ≤ q → q ≤ 11 → rol w2 a q k = rol w a q k := fun a q k h1 h2 h3 h4 => by unfold rol; rw [e a 2 h1 h2, e q k h3 h4]
  have h4 : ∀ k, tC w2 t2 4 k = tC w t 4 k := fun k => by
    by_cases h : 5 ≤ k
    · obtain ⟨k, rfl⟩ : ∃ q, k = q + 5 := ⟨k - 5, by omega⟩
      rw [tC_k45, tC_k45]
    rcases (show k = 0 ∨ k = 1 ∨ k = 2 ∨ k = 3 ∨ k = 4 by omega) with rfl | rfl | rfl | rfl | rfl
    · rw [tC_k40, tC_k40]; exact e 6 2 (by omega) (by omega)
    · rw [tC_k41, tC_k41]; exact e 9 2 (by omega) (by omega)
    · rw [tC_k42, tC_k42]; exact et 3 (by omega)
    · rw [tC_k43, tC_k43]; exact et 4 (by omega)
    · rw [tC_k44, tC_k44]; exact et 5 (by omega)
  intro c hc
  funext k
  rcases (show c = 0 ∨ c = 1 ∨ c = 2 ∨ c = 3 ∨ c = 4 by omega) with rfl | rfl | rfl | rfl | rfl
  · rw [tC_k0, tC_k0]; exact er 6 7 k (by omega) (by omega) (by omega) (by omega)
  · rw [tC_k1, tC_k1]; exact er 6 8 k (by omega) (by omega) (by omega) (by omega)
  · rw [tC_k2, tC_k2]; exact er 9 10 k (by omega) (by omega) (by omega) (by omega)
  · rw [tC_k3, tC_k3]; exact er 9 11 k (by omega) (by omega) (by omega) (by omega)
  · exact h4 k
theorem okL_e2 {w w2 : Wd} {a : Nat} (e0 : ∀ k, gI w2 a k = gI w a k) (e1 : ∀ k, gI w2 (a + 1) k = gI w (a + 1) k) (h : okL w a) : okL w2 a ∧ cde w2 a = cde w a := by
  have ec : cde w2 a = cde w a := by funext k; unfold cde; rw [e0, e1]
  obtain ⟨N, h1, h2, h3⟩ := h
  exact ⟨⟨N, by rw [e0]; exact h1, by rw [ec]; exact h2, fun k hk => by rw [e1]; exact h3 k hk⟩, ec⟩
theorem tC_all {w w2 : Wd} {t : Nat} (lo : ∀ c, c < 5 → tC w2 t c = tC w t c) (eR : gR w2 t 2 = gR w t 2) (ec : cde w2 (gR w t 2) = cde w (gR w t 2)) (e1 : gI w2 (gR w t 2) 1 = gI w (gR w t 2) 1) : tC w2 t = tC w t := by
  funext c
  by_cases hc : c < 5
  · exact lo c hc
  · funext k
    by_cases h7 : 7 ≤ c
    · obtain ⟨c, rfl⟩ : ∃ q, c = q + 7 := ⟨c - 7, by omega⟩
      rw [tC_k7, tC_k7]
    rcases (show c = 5 ∨ c = 6 by omega) with rfl | rfl
    · rw [tC_k5, tC_k5, eR, ec]
    · rw [tC_k6, tC_k6, eR, e1]
def LwP (b : Nat) : Prop := b = 0 ∨ b = 1 ∨ b = 5 ∨ (12 ≤ b ∧ b ≤ 22)
theorem LawF_P {a b : Nat} (ha : a = 12 ∨ a = 18) (h : LawF a b) : 12 ≤ b ∧ b ≤ 22 := by unfold LawF at h; omega
section RL
variable {F : Nat} {w : Wd} {t : Nat → Int32} {n : Nat}
/-- behind the reading, the text forgotten: what stays -/
theorem law_own {w1 : Wd} {a : Nat} (ok : okT w 5) (ha : a = 12 ∨ a = 18) (hne : ¬ a = gR w 5 2) (f : Fr (LawF a) w w1) : okT (sI w1 1 1 0) 5 ∧ tC (sI w1 1 1 0) 5 = tC w 5 ∧ gR (sI w1 1 1 0) 5 2 = gR w 5 2 ∧ gR (sI w1 1 1 0) 0 4 = gR w 0 4 := by
  have nL : ∀ b, b < 12 → ¬ LawF a b := fun b hb h => by have := LawF_P ha h; omega
  have e5 : gR (sI w1 1 1 0) 5 2 = gR w 5 2 := (f 5 (nL 5 (by omega))).2.2 2
  have e0 : gR (sI w1 1 1 0) 0 4 = gR w 0 4 := (f 0 (nL 0 (by omega))).2.2 4
  have ho := isX2_or ok.2.1
  have nO : ¬ LawF a (gR w 5 2) ∧ ¬ LawF a (gR w 5 2 + 1) := by unfold LawF; rcases ha with rfl | rfl <;> rcases ho with z | z <;> omega
  have g0 : ∀ k, gI (sI w1 1 1 0) (gR w 5 2) k = gI w (gR w 5 2) k := fun k => by rw [gIa (by omega)]; exact (f _ nO.1).1 k
  have g1 : ∀ k, gI (sI w1 1 1 0) (gR w 5 2 + 1) k = gI w (gR w 5 2 + 1) k := fun k => by rw [gIa (by omega)]; exact (f _ nO.2).1 k
  have gl : ∀ b k, 5 ≤ b → b ≤ 11 → gI (sI w1 1 1 0) b k = gI w b k := fun b k h1 h2 => by rw [gIa (by omega)]; exact (f b (nL b (by omega))).1 k
  obtain ⟨q1, q2⟩ := okL_e2 g0 g1 ok.2.2
  refine ⟨⟨.inl rfl, by rw [e5]; exact ok.2.1, by rw [e5]; exact q1⟩, tC_all (tC_lo (fun k _ => gl 5 k (by omega) (by omega)) (fun b k h1 h2 => gl b k (by omega) h2)) e5 q2 (g0 1), e5, e0⟩
theorem v_X10_rule (hF : 100 ≤ F) (ok : okT w 5) (sp : spC w) (hx : TxC w t n) (hsg : ∀ k, k < n → ∃ c : Nat, c < 256 ∧ t k = nI c) (hp : (wU t n).2.1 ≤ min n 40) : ∃ w2, P_X10_rule F w = some (wtU t n, w2) ∧ Fr LwP w w2 ∧ (∀ k, gI w2 0 k = gI w 0 k) ∧ TxC w2 t 0 ∧ okT w2 5 ∧ spC w2 ∧ (wtU t n = 0 → NewR (tC w 5) (tC w2 5) (wU t n).2.2) ∧ (¬ wtU t n = 0 → tC w2 5 = tC w 5) := by
  have hn := hx.2.1
  have ha := isX2_or sp.1
  have ho := isX2_or ok.2.1
  obtain ⟨w1, a1, a2, a3⟩ := v_X2_read hF ha hx hsg hp
  obtain ⟨o1, o2, o3, o4⟩ := law_own ok ha sp.2 a2
  unfold P_X10_rule
  rw [lt_v, gd_t sp.1, bnd_r a1, lt_v]
  have nL : ∀ b, b < 12 → ¬ LawF (gR w 0 4) b := fun b hb h => by have := LawF_P ha h; omega
  have f1 : Fr LwP w (sI w1 1 1 0) := a2.tr Fr.ofI (fun b hb => .inr (.inr (.inr (LawF_P ha hb)))) (fun b hb => .inr (.inl hb))
  have g0 : ∀ k, gI (sI w1 1 1 0) 0 k = gI w 0 k := fun k => by rw [gIa (by decide)]; exact (a2 0 (nL 0 (by omega))).1 k
  have x0 : TxC (sI w1 1 1 0) t 0 := ⟨gIs, by omega, fun k hk => absurd hk (Nat.not_lt_zero _)⟩
  rcases rf_wt t n hn hp with ⟨r1, r2, r3, r4, r5⟩ | ⟨r1, r2, r3⟩
  · obtain ⟨b1, b2, b3, b4⟩ := a3 r1
    rw [if_pos r1, lt_v, o3, gd_t ok.2.1, lt_v, o4, gd_t sp.1, lt_v, lt_v, r2]
    have eR5 : gR (sR (sR (sI w1 1 1 0) 5 2 (gR w 0 4)) 0 4 (gR w 5 2)) 5 2 = gR w 0 4 := by rw [gR_sR, if_neg (by decide), gR_sR, if_pos rfl, if_pos rfl]
    have eR0 : gR (sR (sR (sI w1 1 1 0) 5 2 (gR w 0 4)) 0 4 (gR w 5 2)) 0 4 = gR w 5 2 := by rw [gR_sR, if_pos rfl, if_pos rfl]
    have eI : ∀ b k, gI (sR (sR (sI w1 1 1 0) 5 2 (gR w 0 4)) 0 4 (gR w 5 2)) b k = gI (sI w1 1 1 0) b k := fun b k => rfl
    have f2 : Fr LwP (sI w1 1 1 0) (sR (sR (sI w1 1 1 0) 5 2 (gR w 0 4)) 0 4 (gR w 5 2)) := Fr.ofR.tr Fr.ofR (fun b hb => .inr (.inr (.inl hb))) (fun b hb => .inl hb)
    obtain ⟨q1, q2⟩ := okL_e2 (w2 := sR (sR (sI w1 1 1 0) 5 2 (gR w 0 4)) 0 4 (gR w 5 2)) (fun k => by rw [eI, gIa (by omega)]) (fun k => by rw [eI, gIa (by omega)]) b4
    refine ⟨_, rfl, f1.tr f2 (fun _ h => h) (fun _ h => h), g0, x0, ⟨.inl rfl, by rw [eR5]; exact sp.1, by rw [eR5]; exact q1⟩, ⟨by rw [eR0]; exact ok.2.1, by rw [eR0, eR5]; exact fun z => sp.2 z.symm⟩, fun _ => ⟨?_, ?_, fun k hk => ?_⟩, fun z => absurd rfl z⟩
    · intro c hc
      have e1 : tC (sR (sR (sI w1 1 1 0) 5 2 (gR w 0 4)) 0 4 (gR w 5 2)) 5 c = tC (sI w1 1 1 0) 5 c := tC_lo (w := sI w1 1 1 0) (w2 := sR (sR (sI w1 1 1 0) 5 2 (gR w 0 4)) 0 4 (gR w 5 2)) (t := 5) (t2 := 5) (fun k _ => rfl) (fun b k _ _ => rfl) c hc
      rw [e1, o2]
    · show gI (sR (sR (sI w1 1 1 0) 5 2 (gR w 0 4)) 0 4 (gR w 5 2)) (gR (sR (sR (sI w1 1 1 0) 5 2 (gR w 0 4)) 0 4 (gR w 5 2)) 5 2) 1 = _
      rw [eR5, eI, gIa (by omega)]; exact b1
    · show cde (sR (sR (sI w1 1 1 0) 5 2 (gR w 0 4)) 0 4 (gR w 5 2)) (gR (sR (sR (sI w1 1 1 0) 5 2 (gR w 0 4)) 0 4 (gR w 5 2)) 5 2) k = _
      rw [eR5, q2]; exact b3 k hk
  · rw [if_neg r1, ← r2]
    exact ⟨_, rfl, f1, g0, x0, o1, ⟨by rw [o4]; exact sp.1, by rw [o4, o3]; exact sp.2⟩, fun z => absurd r3 (by rw [z]; decide), fun _ => o2⟩
end RL
