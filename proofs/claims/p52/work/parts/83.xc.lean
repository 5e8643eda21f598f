-- ===== set, keep, again =====
theorem okL_5 {w w2 : Wd} (f : Fr (fun b => b = 5) w w2) {a : Nat} (ha : a = 12 ∨ a = 18) (h : okL w a) : okL w2 a := by
  have kI : ∀ a k, a ≠ 5 → gI w2 a k = gI w a k := fun a k ha => (f a ha).1 k
  have ec : cde w2 a = cde w a := by
    funext k
    unfold cde
    rcases ha with rfl | rfl <;> rw [kI _ _ (by decide), kI _ _ (by decide)]
  obtain ⟨N, a1, a2, a3⟩ := h
  refine ⟨N, ?_, by rw [ec]; exact a2, fun k hk => ?_⟩
  · rw [← a1]; rcases ha with rfl | rfl <;> rw [kI _ _ (by decide)]
  · have := a3 k hk
    rcases ha with rfl | rfl <;> rw [kI _ _ (by decide)] <;> exact this
/-- one of the guess's numbers changed -/
theorem tower_set {w : Wd} (ok : okT w 5) (k : Nat) (v : Int32) (hk : k = 3 ∨ k = 4 ∨ k = 5) : Fr (fun b => b = 5) w (sI w 5 k v) ∧ okT (sI w 5 k v) 5 ∧ tC (sI w 5 k v) 5 = setT (tC w 5) (k - 1) v := by
  have f : Fr (fun b => b = 5) w (sI w 5 k v) := Fr.ofI
  have h12 := isX2_or ok.2.1
  refine ⟨f, ⟨.inl rfl, ok.2.1, okL_5 f h12 ok.2.2⟩, ?_⟩
  have kI : ∀ a j, a ≠ 5 → gI (sI w 5 k v) a j = gI w a j := fun a j ha => gIa ha
  have er : ∀ a q k2, a ≠ 5 → q ≠ 5 → rol (sI w 5 k v) a q k2 = rol w a q k2 := fun a q k2 h1 h2 => by unfold rol; rw [kI _ _ h1, kI _ _ h2]
  have ec : cde (sI w 5 k v) (gR w 5 2) = cde w (gR w 5 2) := by
    funext j
    unfold cde
    rcases h12 with e | e <;> rw [e, kI _ _ (by decide), kI _ _ (by decide)]
  funext c j
  unfold setT
  by_cases hc : c = 4
  · subst hc
    rcases hk with rfl | rfl | rfl
    · rcases (show j = 0 ∨ j = 1 ∨ j = 2 ∨ j = 3 ∨ j = 4 ∨ 5 ≤ j by omega) with rfl | rfl | rfl | rfl | rfl | hj
      · show gI (sI w 5 3 v) 6 2 = if 4 = 4 ∧ 0 = 3 - 1 then v else gI w 6 2
        rw [if_neg (by decide)]; exact kI _ _ (by decide)
      · show gI (sI w 5 3 v) 9 2 = if 4 = 4 ∧ 1 = 3 - 1 then v else gI w 9 2
        rw [if_neg (by decide)]; exact kI _ _ (by decide)
      · show gI (sI w 5 3 v) 5 3 = if 4 = 4 ∧ 2 = 3 - 1 then v else gI w 5 3
        rw [if_pos (by decide)]; exact gIs
      · show gI (sI w 5 3 v) 5 4 = if 4 = 4 ∧ 3 = 3 - 1 then v else gI w 5 4
        rw [if_neg (by decide)]; exact gIk (by decide)
      · show gI (sI w 5 3 v) 5 5 = if 4 = 4 ∧ 4 = 3 - 1 then v else gI w 5 5
        rw [if_neg (by decide)]; exact gIk (by decide)
      · obtain ⟨j, rfl⟩ : ∃ q, j = q + 5 := ⟨j - 5, by omega⟩
        show (0 : Int32) = if 4 = 4 ∧ j + 5 = 3 - 1 then v else 0
        rw [if_neg (by omega)]
    · rcases (show j = 0 ∨ j = 1 ∨ j = 2 ∨ j = 3 ∨ j = 4 ∨ 5 ≤ j by omega) with rfl | rfl | rfl | rfl | rfl | hj
      · show gI (sI w 5 4 v) 6 2 = if 4 = 4 ∧ 0 = 4 - 1 then v else gI w 6 2
        rw [if_neg (by decide)]; exact kI _ _ (by decide)
      · show gI (sI w 5 4 v) 9 2 = if 4 = 4 ∧ 1 = 4 - 1 then v else gI w 9 2
        rw [if_neg (by decide)]; exact kI _ _ (by decide)
      · show gI (sI w 5 4 v) 5 3 = if 4 = 4 ∧ 2 = 4 - 1 then v else gI w 5 3
        rw [if_neg (by decide)]; exact gIk (by decide)
      · show gI (sI w 5 4 v) 5 4 = if 4 = 4 ∧ 3 = 4 - 1 then v else gI w 5 4
        rw [if_pos (by decide)]; exact gIs
      · show gI (sI w 5 4 v) 5 5 = if 4 = 4 ∧ 4 = 4 - 1 then v else gI w 5 5
        rw [if_neg (by decide)]; exact gIk (by decide)
      · obtain ⟨j, rfl⟩ : ∃ q, j = q + 5 := ⟨j - 5, by omega⟩
        show (0 : Int32) = if 4 = 4 ∧ j + 5 = 4 - 1 then v else 0
        rw [if_neg (by omega)]
    · rcases (show j = 0 ∨ j = 1 ∨ j = 2 ∨ j = 3 ∨ j = 4 ∨ 5 ≤ j by omega) with rfl | rfl | rfl | rfl | rfl | hj
      · show gI (sI w 5 5 v) 6 2 = if 4 = 4 ∧ 0 = 5 - 1 then v else gI w 6 2
        rw [if_neg (by decide)]; exact kI _ _ (by decide)
      · show gI (sI w 5 5 v) 9 2 = if 4 = 4 ∧ 1 = 5 - 1 then v else gI w 9 2
        rw [if_neg (by decide)]; exact kI _ _ (by decide)
      · show gI (sI w 5 5 v) 5 3 = if 4 = 4 ∧ 2 = 5 - 1 then v else gI w 5 3
        rw [if_neg (by decide)]; exact gIk (by decide)
      · show gI (sI w 5 5 v) 5 4 = if 4 = 4 ∧ 3 = 5 - 1 then v else gI w 5 4
        rw [if_neg (by decide)]; exact gIk (by decide)
      · show gI (sI w 5 5 v) 5 5 = if 4 = 4 ∧ 4 = 5 - 1 then v else gI w 5 5
        rw [if_pos (by decide)]; exact gIs
      · obtain ⟨j, rfl⟩ : ∃ q, j = q + 5 := ⟨j - 5, by omega⟩
        show (0 : Int32) = if 4 = 4 ∧ j + 5 = 5 - 1 then v else 0
        rw [if_neg (by omega)]
  · rw [if_neg (fun h => hc h.1)]
    unfold tC
    split
    · exact er _ _ _ (by decide) (by decide)
    · exact er _ _ _ (by decide) (by decide)
    · exact er _ _ _ (by decide) (by decide)
    · exact er _ _ _ (by decide) (by decide)
    · exact absurd rfl hc
    · exact congrFun ec j
    · show gI (sI w 5 k v) (gR w 5 2) 1 = gI w (gR w 5 2) 1
      rcases h12 with e | e <;> rw [e, kI _ _ (by decide)]
    · rfl

def qSet (T : Tw) (x v : Int32) : Int32 × Tw := if x = 0 then (if v < 1 then (-1, T) else if 30 < v then (-1, T) else (T 4 2, setT T 2 v)) else if x = 1 then (if v < 0 then (-1, T) else if 9 < v then (-1, T) else (T 4 3, setT T 3 v)) else if x = 2 then (if v < 0 then (-1, T) else if 9 < v then (-1, T) else (T 4 4, setT T 4 v)) else (-1, T)
theorem v_X10_set (F : Nat) {w : Wd} (ok : okT w 5) (x v : Int32) : ∃ w2, P_X10_set F w x v = some ((qSet (tC w 5) x v).1, w2) ∧ Fr (fun b => b = 5) w w2 ∧ okT w2 5 ∧ tC w2 5 = (qSet (tC w 5) x v).2 := by
  have h2 : ¬ x = 0 → ¬ x = 1 → ∃ w2, K_X10_set_70 F x v w (-1) = some ((qSet (tC w 5) x v).1, w2) ∧ Fr (fun b => b = 5) w w2 ∧ okT w2 5 ∧ tC w2 5 = (qSet (tC w 5) x v).2 := fun c0 c1 => by
    unfold K_X10_set_70 qSet
    rw [if_neg c0, if_neg c1]
    by_cases c2 : x = 2
    · rw [if_pos c2, if_pos c2]
      by_cases d1 : v < 0
      · rw [if_pos d1, if_pos d1]; exact ⟨w, rfl, Fr.rfl', ok, rfl⟩
      rw [if_neg d1, if_neg d1]
      by_cases d2 : 9 < v
      · rw [if_pos d2, if_pos d2]; exact ⟨w, rfl, Fr.rfl', ok, rfl⟩
      rw [if_neg d2, if_neg d2, lt_v, lt_v]
      obtain ⟨a1, a2, a3⟩ := tower_set ok 5 v (.inr (.inr rfl))
      exact ⟨_, rfl, a1, a2, a3⟩
    · rw [if_neg c2, if_neg c2]; exact ⟨w, rfl, Fr.rfl', ok, rfl⟩
  have h1 : ¬ x = 0 → ∃ w2, K_X10_set_36 F x v w (-1) = some ((qSet (tC w 5) x v).1, w2) ∧ Fr (fun b => b = 5) w w2 ∧ okT w2 5 ∧ tC w2 5 = (qSet (tC w 5) x v).2 := fun c0 => by
    unfold K_X10_set_36
    by_cases c1 : x = 1
    · have e70 : K_X10_set_70 F x v w (-1) = some (-1, w) := by unfold K_X10_set_70; rw [if_neg (show ¬ x = 2 from by rw [c1]; decide)]
      rw [if_pos c1, e70]
      unfold qSet
      rw [if_neg c0, if_pos c1]
      by_cases d1 : v < 0
      · rw [if_pos d1, if_pos d1]; exact ⟨w, rfl, Fr.rfl', ok, rfl⟩
      rw [if_neg d1, if_neg d1]
      by_cases d2 : 9 < v
      · rw [if_pos d2, if_pos d2]; exact ⟨w, rfl, Fr.rfl', ok, rfl⟩
      rw [if_neg d2, if_neg d2, lt_v, lt_v]
      obtain ⟨a1, a2, a3⟩ := tower_set ok 4 v (.inr (.inl rfl))
      exact ⟨_, rfl, a1, a2, a3⟩
    · rw [if_neg c1]; exact h2 c0 c1
  unfold P_X10_set
  by_cases c0 : x = 0
  · have e36 : K_X10_set_36 F x v w (-1) = some (-1, w) := by
      unfold K_X10_set_36 K_X10_set_70; rw [if_neg (show ¬ x = 1 from by rw [c0]; decide), if_neg (show ¬ x = 2 from by rw [c0]; decide)]
    rw [if_pos c0, e36]
    unfold qSet
    rw [if_pos c0]
    by_cases d1 : v < 1
    · rw [if_pos d1, if_pos d1]; exact ⟨w, rfl, Fr.rfl', ok, rfl⟩
    rw [if_neg d1, if_neg d1]
    by_cases d2 : 30 < v
    · rw [if_pos d2, if_pos d2]; exact ⟨w, rfl, Fr.rfl', ok, rfl⟩
    rw [if_neg d2, if_neg d2, lt_v, lt_v]
    obtain ⟨a1, a2, a3⟩ := tower_set ok 3 v (.inl rfl)
    exact ⟨_, rfl, a1, a2, a3⟩
  · rw [if_neg c0]; exact h1 c0
theorem okTw_set4 {T : Tw} {r p N : Nat} (ok : okTw T r p N) (v : Nat) (hv : v ≤ 9) : okTw (setT T 4 (nI v)) r p N := by
  obtain ⟨o1, o2, o3, o4, o5, o6, o7, o8, o9, o10, o11⟩ := ok
  have e : ∀ c j, ¬ (c = 4 ∧ j = 4) → setT T 4 (nI v) c j = T c j := fun c j h => if_neg h
  refine ⟨o1, o2, by rw [e _ _ (by omega)]; exact o3, by rw [e _ _ (by omega)]; exact o4, by rw [e _ _ (by omega)]; exact o5, ?_, fun j hj => ?_, fun j hj => ?_, fun j => ?_, fun j => ?_, v, hv, if_pos ⟨rfl, rfl⟩⟩
  · have : setT T 4 (nI v) 5 = T 5 := funext (fun j => e 5 j (by omega))
    rw [this]; exact o6
  · rw [e _ _ (by omega), e _ _ (by omega)]; exact o7 j hj
  · rw [e _ _ (by omega), e _ _ (by omega)]; exact o8 j hj
  · rw [e _ _ (by omega)]; exact o9 j
  · rw [e _ _ (by omega)]; exact o10 j
theorem okTw_q {T : Tw} {r p N : Nat} (ok : okTw T r p N) (x v : Int32) : okTw (qSet T x v).2 r p N := by
  unfold qSet
  by_cases c0 : x = 0
  · rw [if_pos c0]
    split
    · exact ok
    · split
      · exact ok
      · exact okTw_set ok 2 v (.inl rfl)
  rw [if_neg c0]
  by_cases c1 : x = 1
  · rw [if_pos c1]
    split
    · exact ok
    · split
      · exact ok
      · exact okTw_set ok 3 v (.inr rfl)
  rw [if_neg c1]
  by_cases c2 : x = 2
  · rw [if_pos c2]
    by_cases d1 : v < 0
    · rw [if_pos d1]; exact ok
    rw [if_neg d1]
    by_cases d2 : 9 < v
    · rw [if_pos d2]; exact ok
    rw [if_neg d2]
    obtain ⟨m, -, m2, rfl⟩ := rng d1 (Int32.not_lt.mp d2) (A := 0) (B := 9)
    exact okTw_set4 ok m m2
  · rw [if_neg c2]; exact ok
