-- ===== sheet =====
def enP (kind v : Int32) : Int32 := maxI 0 (minI 99 (if kind = 0 then i2bI v else if kind = 1 then i2sI v else v))
def shV (r : Nat) (kind n f step : Int32) (i : Nat) : Int32 := if kind = 3 then 0 else if n ≤ nI i then 0 else if r ≤ i then 0 else enP kind (f + nI i * step)
def shB (r : Nat) (b : Bl) (kind n f step : Int32) : Bl := fun k => if k < 8 then shV r kind n f step k else b k
def qSheet (r : Nat) (b : Bl) (kind n f step : Int32) : Int32 × Bl := if kind < 0 then (-1, b) else if 3 < kind then (-1, b) else if n ≤ 8 then (if kind = 3 then (-3, shB r b kind n f step) else if 0 ≤ n then (tirS (shB r b kind n f step), shB r b kind n f step) else (-2, b)) else (-1, b)
theorem shV_hi {r : Nat} {kind n f step : Int32} {i : Nat} (h : r ≤ i) : shV r kind n f step i = 0 := by
  unfold shV
  by_cases c1 : kind = 3
  · rw [if_pos c1]
  rw [if_neg c1]
  by_cases c2 : n ≤ nI i
  · rw [if_pos c2]
  rw [if_neg c2, if_pos h]
theorem BlI_sh {r p K : Nat} {b : Bl} (h : BlI b r p K) (kind n f step : Int32) : BlI (qSheet r b kind n f step).2 r p K := by
  have h2 : BlI (shB r b kind n f step) r p K := by
    obtain ⟨a1, a2, a3, a4, a5⟩ := h
    exact ⟨⟨fun k h1 h2 => ⟨(if_pos h2).trans (shV_hi h1), (a1.1 k h1 h2).2⟩, a1.2⟩, a2, a3, a4, a5⟩
  unfold qSheet
  split
  · exact h
  · split
    · exact h
    · split
      · split
        · exact h2
        · split
          · exact h2
          · exact h
      · exact h
theorem sh_step (F : Nat) (kind n f step : Int32) (kk : Wd → Option (Int32 × Wd)) {w : Wd} {r : Nat} (hr : r ≤ 8) (er : gI w 6 2 = nI r) (m i : Nat) (hi : i < 8) : L_X10_sheet_44 F kind n f step (if kind = 3 then 1 else 0) kk (m + 1) w (nI i) = L_X10_sheet_44 F kind n f step (if kind = 3 then 1 else 0) kk m (sI w 24 i (shV r kind n f step i)) (nI (i + 1)) := by
  have h110 : ∀ x, K_X10_sheet_110 F kind n f step (if kind = 3 then 1 else 0) kk (L_X10_sheet_44 F kind n f step (if kind = 3 then 1 else 0) kk m) w (nI i) x (nI i) = L_X10_sheet_44 F kind n f step (if kind = 3 then 1 else 0) kk m (sI w 24 i x) (nI (i + 1)) := fun x => by
    unfold K_X10_sheet_110
    have : P_X1_tire F w 23 (nI i) x = some (sI w 24 i x) := by
      unfold P_X1_tire
      rw [if_neg (nI_pos (by omega)), if_neg (n8gt hi), gd_t (inB_n hi (by omega)), nI_clamp (by omega), lt_v]
    rw [bnv_r this, lt_v, nI_1]
  have h81 : K_X10_sheet_81 F kind n f step (if kind = 3 then 1 else 0) kk (L_X10_sheet_44 F kind n f step (if kind = 3 then 1 else 0) kk m) w (nI i) = L_X10_sheet_44 F kind n f step (if kind = 3 then 1 else 0) kk m (sI w 24 i 0) (nI (i + 1)) := by
    unfold K_X10_sheet_81 K_X10_sheet_82
    rw [if_pos rfl]; exact h110 0
  rw [L_X10_sheet_44, if_neg (n8gt hi)]
  unfold shV
  by_cases c : kind = 3
  · rw [if_pos c, if_pos c, if_neg (show ¬ (1 : Int32) = 0 from by decide)]
    rw [if_pos c] at h81; exact h81
  · rw [if_neg c, if_neg c, if_pos (show (0 : Int32) = 0 from rfl)]
    rw [if_neg c] at h81 h110
    by_cases c2 : n ≤ nI i
    · rw [if_pos c2, if_pos c2]; exact h81
    · rw [if_neg c2, if_neg c2, bnd_r (v_X5_has F w 6 i hi), er]
      by_cases c3 : r ≤ i
      · rw [if_pos (nI_le c3 (by omega)), if_pos c3, lt_v, if_pos rfl, if_pos rfl]; exact h110 0
      · rw [if_neg (nI_ge (by omega) (by omega)), if_neg c3, lt_v, if_neg (show ¬ (1 : Int32) = 0 from by decide), if_neg (show ¬ (1 : Int32) = 0 from by decide)]
        have : P_X10_entry F w kind (f + nI i * step) = some (enP kind (f + nI i * step), w) := by
          unfold P_X10_entry enP; rw [lt_v]
        rw [bnd_r this]; exact h110 _
theorem v_X10_sheet {F : Nat} (hF : 100 ≤ F) {w : Wd} {r : Nat} (hr : r ≤ 8) (er : gI w 6 2 = nI r) (kind n f step : Int32) : ∃ w2, P_X10_sheet F w kind n f step = some ((qSheet r (bC w 23) kind n f step).1, w2) ∧ Fr (fun b => b = 24) w w2 ∧ bC w2 23 = (qSheet r (bC w 23) kind n f step).2 := by
  have loop : ∀ kk, ∀ m j, j + m = 8 → ∀ g, m < g → ∀ v, Fr (fun b => b = 24) w v → (∀ k, gI v 24 k = if k < j then shV r kind n f step k else gI w 24 k) → ∃ w2, L_X10_sheet_44 F kind n f step (if kind = 3 then 1 else 0) kk g v (nI j) = kk w2 ∧ Fr (fun b => b = 24) w w2 ∧ bC w2 23 = shB r (bC w 23) kind n f step := by
    intro kk m
    induction m with
    | zero =>
      intro j hj g hg v g1 g2
      obtain ⟨g, rfl⟩ : ∃ q, g = q + 1 := ⟨g - 1, by omega⟩
      obtain rfl : j = 8 := by omega
      rw [L_X10_sheet_44, if_pos (show (8 : Int32) ≤ nI 8 from by decide)]
      refine ⟨v, rfl, g1, ?_⟩
      funext k
      show (if k < 8 then gI v 24 k else if k < 16 then gI v 23 (k - 7) else 0) = if k < 8 then shV r kind n f step k else bC w 23 k
      by_cases c : k < 8
      · rw [if_pos c, if_pos c, g2 k, if_pos c]
      · rw [if_neg c, if_neg c, (g1 23 (by decide)).1]
        show _ = if k < 8 then _ else _
        rw [if_neg c]
    | succ m ih =>
      intro j hj g hg v g1 g2
      obtain ⟨g, rfl⟩ : ∃ q, g = q + 1 := ⟨g - 1, by omega⟩
      rw [sh_step F kind n f step kk hr (by rw [(g1 6 (by decide)).1]; exact er) g j (by omega)]
      refine ih (j + 1) (by omega) g (by omega) _ (g1.tr Fr.ofI (fun _ h => h) (fun _ h => h)) (fun k => ?_)
      by_cases c : k = j
      · rw [c, gIs, if_pos (by omega)]
      · rw [gIk c, g2 k]
        by_cases c2 : k < j
        · rw [if_pos c2, if_pos (by omega)]
        · rw [if_neg c2, if_neg (by omega)]
  unfold P_X10_sheet qSheet
  by_cases h1 : kind < 0
  · rw [if_pos h1, if_pos h1]; exact ⟨w, rfl, Fr.rfl', rfl⟩
  rw [if_neg h1, if_neg h1]
  by_cases h2 : 3 < kind
  · rw [if_pos h2, if_pos h2]; exact ⟨w, rfl, Fr.rfl', rfl⟩
  rw [if_neg h2, if_neg h2]
  by_cases h3 : n ≤ 8
  · rw [if_pos h3, if_pos h3, lt_v]
    obtain ⟨w2, a1, a2, a3⟩ := loop (fun w  => (if (if kind = 3 then (1 : Int32) else 0) = 0 then bnd (P_X1_tiredTogether F w 23) (fun x38 w37 => some (x38, w37)) else some ((-3), w))) 8 0 rfl F (by omega) w Fr.rfl' (fun k => by rw [if_neg (Nat.not_lt_zero _)])
    have e41 : K_X10_sheet_41 F kind n f step w (if kind = 3 then 1 else 0) = (if (if kind = 3 then (1 : Int32) else 0) = 0 then bnd (P_X1_tiredTogether F w2 23) (fun x38 w37 => some (x38, w37)) else some ((-3), w2)) := a1
    rw [e41]
    by_cases c : kind = 3
    · rw [if_pos c, if_pos c, if_neg (show ¬ (1 : Int32) = 0 from by decide), if_neg (show ¬ (1 : Int32) = 0 from by decide)]
      exact ⟨w2, rfl, a2, a3⟩
    · rw [if_neg c, if_neg c, if_pos (show (0 : Int32) = 0 from rfl)]
      by_cases c2 : (0 : Int32) ≤ n
      · rw [if_pos c2, if_pos c2, if_pos (show (0 : Int32) = 0 from rfl), bnd_r (v_X1_tiredTogether hF w2 23), a3]
        exact ⟨w2, rfl, a2, a3⟩
      · rw [if_neg c2, if_neg c2]; exact ⟨w, rfl, Fr.rfl', rfl⟩
  · rw [if_neg h3, if_neg h3]; exact ⟨w, rfl, Fr.rfl', rfl⟩
