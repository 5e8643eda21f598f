-- ===== loud, lasts, hush, silence, crowd, team =====
theorem v_X11_loud {F : Nat} (hF : 2000 ≤ F) {w : Wd} {T : Tw} {b : Bl} {r p N : Nat} (g : MG w T b r p N) : AskM (P_X11_loud F w) (loudT T b (b 8), none) w := by
  have g1 := MG_QN g fm_t0
  unfold P_X11_loud
  simp only [lt_v, gd1, GL]
  obtain ⟨w2, e1, e2⟩ := v_X11_loudOf (F := F) (by omega) g1.1 g1.2.1 (a := 95) (.inl rfl) (fun k h1 h2 => by have := (g.2.2.2.1 k h1 h2).1; rw [← g1.2.2.1, rM_k (by omega)] at this; exact this) (gI (sI w 88 0 0) 95 8)
  rw [bnd_r e1, g1.2.2.1, show gI (sI w 88 0 0) 95 8 = b 8 from by rw [← g1.2.2.1]; rfl]
  exact am_n (fm_t0.tr (e2.imp (fun _ _ h => Sc_QN h)))
theorem now_k {w w1 : Wd} {T : Tw} {b : Bl} {r p N : Nat} (g : MG w T b r p N) (f : Fm QM w w1) {k : Nat} (hk : k < 16) : gI w1 95 k = b k := by
  have g1 := MG_QM g f
  rw [← g1.2.2.1, rM_k hk]
theorem QN_QM {a k : Nat} (h : QN a k) : QM a k := .inl h
theorem Tm_QM {a k : Nat} (h : Tm a k) : QM a k := .inr h
theorem v_X11_lasts {F : Nat} (hF : 2000 ≤ F) {w : Wd} {T : Tw} {b : Bl} {r p N : Nat} (g : MG w T b r p N) : AskM (P_X11_lasts F w) (qLasts T b) w := by
  obtain ⟨w1, e1, e2⟩ := ms_stopsIn hF g fm_t0
  have hle := fst0_le T (b 13) 999 1 b
  have h15 := (fstM_o T (b 13) 999 1 b b (eq15_rfl b)).2
  unfold P_X11_lasts qLasts
  simp only [gd1, GL]
  rw [lt_v, bnd_r e1]
  generalize fst0 T (b 13) 999 1 b = q at *
  by_cases h : q.1 ≤ 999
  · rw [if_pos h, if_pos (show nI q.1 ≤ 999 from nI_le (a := q.1) (b := 999) h (by decide)), lt_v]
    have k1 : ∀ (w2 : Wd), Fm Tm w1 w2 → ∀ k, k < 15 → gI w2 96 k = q.2 k := fun w2 f k hk => by
      rw [(f 96 k (fun h => Tm96 h)).1, ← h15 k (by omega), ← e2.2, rM_k (by omega)]
    have k2 : ∀ (w2 : Wd), Fm Tm w1 w2 → ∀ k, k < 15 → gI w2 95 k = b k := fun w2 f k hk => now_k g ((e2.1.imp (fun _ _ h => QN_QM h)).tr (f.imp (fun _ _ h => Tm_QM h))) (by omega)
    have t0 : Fm Tm w1 (sI w1 88 1 0) := Fm.rfl'.sI (.inl ⟨rfl, rfl⟩)
    rw [k1 _ t0 11 (by decide), k2 _ t0 11 (by decide)]
    exact am_2 _ _ _ _ (fun w2 f => by rw [k1 _ f 14 (by decide), k2 _ f 14 (by decide)]; rfl) (fun w2 f1 f2 => am_t e2.1 f1 f2)
  · rw [if_neg h, if_neg (show ¬ nI q.1 ≤ 999 from nI_ge (a := 999) (b := q.1) (by omega) (by omega))]
    exact am_n e2.1
theorem v_X11_hush {F : Nat} (hF : 2000 ≤ F) {w : Wd} {T : Tw} {b : Bl} {r p N : Nat} (g : MG w T b r p N) : AskM (P_X11_hush F w) (qHush T b) w := by
  obtain ⟨w0, d1, d2⟩ := ms_puts (F := F) (by omega) (fm_t0 (w := w))
  rw [g.2.2.1] at d2
  obtain ⟨w1, e1, e2⟩ := ms_rungFor hF g d2 g.2.2.2 999 (by omega)
  have hle := rgo_le T 999 b
  have h15 := (rgM_o T 999 b b (eq15_rfl b)).2
  unfold P_X11_hush qHush
  simp only [gd1, GL]
  rw [lt_v, bnv_r d1, bnd_r (show P_X11_rungFor F w0 999 = _ from e1)]
  generalize rgo T 999 b = q at *
  by_cases h : q.1 = 999
  · rw [if_pos h, if_pos (show nI q.1 = 999 by rw [h]; rfl)]
    exact am_n e2.1
  · rw [if_neg h, if_neg (show ¬ nI q.1 = 999 from fun e => h ((nI_eq (a := q.1) (b := 999) (by omega) (by decide)).mp e)), lt_v]
    have k1 : gI (sI w1 88 1 0) 96 12 = q.2 12 := by rw [gIa (by decide), ← h15 12 (by decide), ← e2.2, rM_k (by decide)]
    rw [k1]
    exact am_1 e2.1 _ _ (fun w2 f1 f2 => am_t e2.1 f1 f2)
-- silence
abbrev Si : Type := Int32 × Nat × Bl
def slp (f : Bl → Bl) (j : Nat) (s : Si) : Si := if f s.2.2 12 ≤ s.1 then (s.1, s.2.1, f s.2.2) else (f s.2.2 12, j, f s.2.2)
def slR (_ : Nat) (s t : Si) : Prop := t.1 = s.1 ∧ t.2.1 = s.2.1 ∧ eq15 s.2.2 t.2.2
theorem slp_rel (T : Tw) (j : Nat) (s t : Si) (h : slR j s t) : slR (j + 1) (slp (mi0 T) j s) (slp (mi T) j t) := by
  obtain ⟨h1, h2, h3⟩ := h
  have h4 := mi_15 (T := T) h3
  unfold slp
  rw [h4 12 (by decide), h1]
  split
  · exact ⟨rfl, h2, h4⟩
  · exact ⟨rfl, rfl, h4⟩
def qSilence (T : Tw) (b : Bl) (x : Int32) : Ans := qR x 1 999 ((foldU (slp (mi0 T)) x.toNatClampNeg 1 (b 12, 0, b)).1, some [i64 (nI (foldU (slp (mi0 T)) x.toNatClampNeg 1 (b 12, 0, b)).2.1), i64 ((foldU (slp (mi0 T)) x.toNatClampNeg 1 (b 12, 0, b)).2.2 9)])
theorem v_X10_silence {F : Nat} (hF : 2000 ≤ F) {w : Wd} (s : St w) (x : Int32) : AskC (P_X10_silence F w x) (qSilence (tC w 5) (bC w 23) x) w := by
  unfold P_X10_silence qSilence
  refine askC_r (fun h1 h2 => ?_)
  obtain ⟨n, hn1, hn2, rfl⟩ := rng h1 h2 (A := 1) (B := 999)
  rw [nI_clamp (by omega)]
  obtain ⟨w0, e0, e1, -⟩ := sim_start (F := F) (by omega) (w := w) (w1 := w) Fr.rfl'
  have k12 : gI w0 23 5 = bC w 23 12 := by
    have : bC w0 23 = bC w 23 := bC_fr e1.1 (by unfold SP Scr; omega) (by unfold SP Scr; omega)
    rw [← this]; rfl
  rw [bnv_r e0, lt_v, k12]
  obtain ⟨w2, f1, f2⟩ := lpG (fun m w (s : Si) i => L_X10_silence_38 F (nI n) (fun w x9 x10 => bnv (P_X10_tell_ F w (Int32.toInt64 x10) (Int32.toInt64 (gI w 25 2))) (fun w20 => some (x9, w20))) m w s.1 (nI s.2.1) i)
    (fun w s => bnv (P_X10_tell_ F w (Int32.toInt64 (nI s.2.1)) (Int32.toInt64 (gI w 25 2))) (fun w20 => some (s.1, w20)))
    (slp (mi0 (tC w 5))) (fun u s _ => Sim w u s.2.2) (n + 1)
    (fun m u s hI => by
      show L_X10_silence_38 F (nI n) _ (m + 1) u _ _ _ = _
      rw [L_X10_silence_38, if_pos (nI_lt (by omega) (by omega))])
    (fun m u s j hj hI => by
      show ∃ w2, L_X10_silence_38 F (nI n) _ (m + 1) u _ _ _ = L_X10_silence_38 F (nI n) _ m w2 _ _ _ ∧ _
      obtain ⟨u2, d1, d2, -⟩ := sim_ring (F := F) (by omega) 5 ‹St w›.1 hI
      have k5 : gI u2 25 5 = mi0 (tC w 5) s.2.2 12 := by rw [← d2.2]; rfl
      rw [L_X10_silence_38, if_neg (nI_nlt (by omega) (by omega)), bnd_r d1, k5]
      unfold slp K_X10_silence_78
      rw [lt_v, lt_v, lt_v, nI_1]
      refine ⟨u2, ?_, ?_⟩
      · split <;> rfl
      · split <;> exact d2)
    n 1 (by omega) F (by omega) w0 (bC w 23 12, 0, bC w 23) e1
  rw [show L_X10_silence_38 F (nI n) (fun w x9 x10 => bnv (P_X10_tell_ F w (Int32.toInt64 x10) (Int32.toInt64 (gI w 25 2))) (fun w20 => some (x9, w20))) F w0 (bC w 23 12) 0 1 = _ from f1]
  generalize foldU (slp (mi0 (tC w 5))) n 1 (bC w 23 12, 0, bC w 23) = q at *
  have k9 : gI w2 25 2 = q.2.2 9 := by rw [← f2.2]; rfl
  obtain ⟨w3, c1, c2, c3⟩ := v_X10_tell2 F w2 (Int32.toInt64 (nI q.2.1)) (Int32.toInt64 (gI w2 25 2))
  rw [bnv_r c1]
  rw [k9] at c3
  exact ask_t (f2.1.imp (fun b h => SP_QP h)) c2 c3
theorem v_X11_silence {F : Nat} (hF : 2000 ≤ F) {w : Wd} {T : Tw} {b : Bl} {r p N : Nat} (g : MG w T b r p N) (x : Int32) : AskM (P_X11_silence F w x) (qSilence T b x) w := by
  unfold P_X11_silence qSilence
  rw [lt_v, in_r F _ x 1 999]
  refine askM_r fm_t0 (fun h1 h2 => ?_)
  obtain ⟨n, hn1, hn2, rfl⟩ := rng h1 h2 (A := 1) (B := 999)
  rw [nI_clamp (by omega)]
  obtain ⟨w0, d1, d2⟩ := ms_puts (F := F) (by omega) (fm_t0 (w := w))
  rw [g.2.2.1] at d2
  simp only [gd1, GL]
  rw [bnv_r d1, lt_v, now_k g (d2.1.imp (fun _ _ h => QN_QM h)) (by decide)]
  obtain ⟨w2, f1, f2, f3⟩ := lpG (fun m w (s : Si) i => L_X11_silence_36 F (nI n) (fun w x12 x13 => lt (sI w 88 1 0) (fun w24 => bnv (P_X11_enters F w24 (Int32.toInt64 x13)) (fun w25 => (bnv (P_X11_enters F w25 (Int32.toInt64 (gI w25 96 9))) (fun w27 => some (x12, w27)))))) m w s.1 (nI s.2.1) i)
    (fun w s => lt (sI w 88 1 0) (fun w24 => bnv (P_X11_enters F w24 (Int32.toInt64 (nI s.2.1))) (fun w25 => (bnv (P_X11_enters F w25 (Int32.toInt64 (gI w25 96 9))) (fun w27 => some (s.1, w27))))))
    (slp (mi T)) (fun u s _ => MS w u s.2.2 ∧ zB s.2.2 r) (n + 1)
    (fun m u s hI => by
      show L_X11_silence_36 F (nI n) _ (m + 1) u _ _ _ = _
      rw [L_X11_silence_36, if_pos (nI_lt (by omega) (by omega))])
    (fun m u s j hj hI => by
      show ∃ w2, L_X11_silence_36 F (nI n) _ (m + 1) u _ _ _ = L_X11_silence_36 F (nI n) _ m w2 _ _ _ ∧ _
      obtain ⟨u2, d1, d2⟩ := ms_minute (F := F) (by omega) g hI.1 hI.2
      have k5 : gI u2 96 12 = mi T s.2.2 12 := by rw [← d2.2, rM_k (by decide)]
      rw [L_X11_silence_36, if_neg (nI_nlt (by omega) (by omega)), bnd_r d1, k5]
      simp only [gd1, GL, lt_v]
      unfold slp
      rw [nI_1]
      refine ⟨u2, ?_, ?_⟩
      · by_cases hq : mi T s.2.2 12 ≤ s.1
        · rw [if_pos hq, if_pos hq, maxI_l hq]
        · rw [if_neg hq, if_neg hq, maxI_r hq]
      · split <;> exact ⟨d2, zB_mi hI.2⟩)
    n 1 (by omega) F (by omega) w0 (b 12, 0, b) ⟨d2, g.2.2.2⟩
  rw [show L_X11_silence_36 F (nI n) (fun w x12 x13 => lt (sI w 88 1 0) (fun w24 => bnv (P_X11_enters F w24 (Int32.toInt64 x13)) (fun w25 => (bnv (P_X11_enters F w25 (Int32.toInt64 (gI w25 96 9))) (fun w27 => some (x12, w27)))))) F w0 (b 12) 0 1 = _ from f1]
  obtain ⟨r1, r2, r3⟩ := foldU_rel slR (slp (mi0 T)) (slp (mi T)) (n + 1) (fun j s t _ h => slp_rel T j s t h) n 1 (b 12, 0, b) (b 12, 0, b) (by omega) ⟨rfl, rfl, eq15_rfl b⟩
  rw [← r1, ← r2, ← r3 9 (by decide)]
  generalize foldU (slp (mi T)) n 1 (b 12, 0, b) = q at *
  have k1 : ∀ (w3 : Wd), Fm Tm w2 w3 → Int32.toInt64 (gI w3 96 9) = i64 (q.2.2 9) := fun w3 f => by
    rw [(f 96 9 (fun h => Tm96 h)).1, ← f2.2, rM_k (by decide)]; rfl
  rw [lt_v]
  exact am_2 _ _ _ _ k1 (fun w2 c1 c2 => am_t f2.1 c1 c2)
-- crowd
def crp (T : Tw) (j : Nat) (s : Nat × Bl) : Nat × Bl := (if mi T s.2 15 = s.2 15 then s.1 else j, mi T s.2)
def qCrowd (T : Tw) (b : Bl) (x : Int32) : Ans := qR x 0 999 ((foldU (crp T) x.toNatClampNeg 1 (0, b)).2 15, some [i64 (nI (foldU (crp T) x.toNatClampNeg 1 (0, b)).1), i64 (bc ((foldU (crp T) x.toNatClampNeg 1 (0, b)).2 15))])
theorem v_X10_crowd {F : Nat} (hF : 2000 ≤ F) {w : Wd} (s : St w) (x : Int32) : AskC (P_X10_crowd F w x) (qCrowd (tC w 5) (bC w 23) x) w := by
  unfold P_X10_crowd qCrowd
  refine askC_r (fun h1 h2 => ?_)
  obtain ⟨n, hn1, hn2, rfl⟩ := rng h1 h2 (A := 0) (B := 999)
  rw [nI_clamp (by omega)]
  obtain ⟨w0, e0, e1, -⟩ := sim_start (F := F) (by omega) (w := w) (w1 := w) Fr.rfl'
  rw [bnv_r e0]
  obtain ⟨w2, f1, f2⟩ := lpG (fun m w (s : Nat × Bl) i => L_X10_crowd_28 F (nI n) (fun w x7 => bnd (P_J6_bitCount_0f7a4 F w (gI w 25 8)) (fun x16 w15 => bnv (P_X10_tell_ F w15 (Int32.toInt64 x7) (Int32.toInt64 x16)) (fun w17 => some (gI w17 25 8, w17)))) m w (nI s.1) i)
    (fun w s => bnd (P_J6_bitCount_0f7a4 F w (gI w 25 8)) (fun x16 w15 => bnv (P_X10_tell_ F w15 (Int32.toInt64 (nI s.1)) (Int32.toInt64 x16)) (fun w17 => some (gI w17 25 8, w17))))
    (crp (tC w 5)) (fun u s _ => Sim w u s.2) (n + 1)
    (fun m u s hI => by
      show L_X10_crowd_28 F (nI n) _ (m + 1) u _ _ = _
      rw [L_X10_crowd_28, if_pos (nI_lt (by omega) (by omega))])
    (fun m u s j hj hI => by
      show ∃ w2, L_X10_crowd_28 F (nI n) _ (m + 1) u _ _ = L_X10_crowd_28 F (nI n) _ m w2 _ _ ∧ _
      obtain ⟨u2, d1, d2⟩ := sim_minute (F := F) (by omega) 5 ‹St w›.1 hI
      have k5 : gI u2 25 8 = mi (tC w 5) s.2 15 := by rw [← d2.2]; rfl
      have k6 : gI u 25 8 = s.2 15 := by rw [← hI.2]; rfl
      rw [L_X10_crowd_28, if_neg (nI_nlt (by omega) (by omega)), lt_v, bnv_r d1, k5, k6]
      unfold crp K_X10_crowd_67
      rw [lt_v, lt_v, nI_1]
      refine ⟨u2, ?_, d2⟩
      split <;> rfl)
    n 1 (by omega) F (by omega) w0 (0, bC w 23) e1
  rw [show L_X10_crowd_28 F (nI n) (fun w x7 => bnd (P_J6_bitCount_0f7a4 F w (gI w 25 8)) (fun x16 w15 => bnv (P_X10_tell_ F w15 (Int32.toInt64 x7) (Int32.toInt64 x16)) (fun w17 => some (gI w17 25 8, w17)))) F w0 0 1 = _ from f1]
  generalize foldU (crp (tC w 5)) n 1 (0, bC w 23) = q at *
  have k9 : gI w2 25 8 = q.2 15 := by rw [← f2.2]; rfl
  obtain ⟨w3, c1, c2, c3⟩ := v_X10_tell2 F w2 (Int32.toInt64 (nI q.1)) (Int32.toInt64 (bc (gI w2 25 8)))
  rw [bnd_r (v_bc F w2 _), bnv_r c1, (c2 25 (by omega)).1, k9]
  rw [k9] at c3
  exact ask_t (f2.1.imp (fun b h => SP_QP h)) c2 c3
theorem v_X11_crowd {F : Nat} (hF : 2000 ≤ F) {w : Wd} {T : Tw} {b : Bl} {r p N : Nat} (g : MG w T b r p N) (x : Int32) : AskM (P_X11_crowd F w x) (qCrowd T b x) w := by
  unfold P_X11_crowd qCrowd
  rw [lt_v, in_r F _ x 0 999]
  refine askM_r fm_t0 (fun h1 h2 => ?_)
  obtain ⟨n, hn1, hn2, rfl⟩ := rng h1 h2 (A := 0) (B := 999)
  rw [nI_clamp (by omega)]
  obtain ⟨w0, d1, d2⟩ := ms_puts (F := F) (by omega) (fm_t0 (w := w))
  rw [g.2.2.1] at d2
  simp only [gd1, GL]
  rw [bnv_r d1]
  obtain ⟨w2, f1, f2, f3⟩ := lpG (fun m w (s : Nat × Bl) i => L_X11_crowd_27 F (nI n) (fun w x9 => lt (sI w 88 1 0) (fun w20 => bnv (P_X11_enters F w20 (Int32.toInt64 x9)) (fun w21 => (bnd (P_J6_bitCount_0f7a4 F w21 (gI w21 96 15)) (fun x24 w23 => bnv (P_X11_enters F w23 (Int32.toInt64 x24)) (fun w25 => (some (gI w25 96 15, w25)))))))) m w (nI s.1) i)
    (fun w s => lt (sI w 88 1 0) (fun w20 => bnv (P_X11_enters F w20 (Int32.toInt64 (nI s.1))) (fun w21 => (bnd (P_J6_bitCount_0f7a4 F w21 (gI w21 96 15)) (fun x24 w23 => bnv (P_X11_enters F w23 (Int32.toInt64 x24)) (fun w25 => (some (gI w25 96 15, w25))))))))
    (crp T) (fun u s _ => MS w u s.2 ∧ zB s.2 r) (n + 1)
    (fun m u s hI => by
      show L_X11_crowd_27 F (nI n) _ (m + 1) u _ _ = _
      rw [L_X11_crowd_27, if_pos (nI_lt (by omega) (by omega))])
    (fun m u s j hj hI => by
      show ∃ w2, L_X11_crowd_27 F (nI n) _ (m + 1) u _ _ = L_X11_crowd_27 F (nI n) _ m w2 _ _ ∧ _
      obtain ⟨u2, d1, d2⟩ := ms_minute (F := F) (by omega) g hI.1 hI.2
      have k5 : gI u2 96 15 = mi T s.2 15 := by rw [← d2.2, rM_k (by decide)]
      have k6 : gI u 96 15 = s.2 15 := by rw [← hI.1.2, rM_k (by decide)]
      rw [L_X11_crowd_27, if_neg (nI_nlt (by omega) (by omega))]
      simp only [gd1, GL, lt_v]
      rw [bnd_r d1, k5, k6]
      unfold crp
      rw [nI_1]
      refine ⟨u2, ?_, d2, zB_mi hI.2⟩
      split <;> rfl)
    n 1 (by omega) F (by omega) w0 (0, b) ⟨d2, g.2.2.2⟩
  rw [show L_X11_crowd_27 F (nI n) (fun w x9 => lt (sI w 88 1 0) (fun w20 => bnv (P_X11_enters F w20 (Int32.toInt64 x9)) (fun w21 => (bnd (P_J6_bitCount_0f7a4 F w21 (gI w21 96 15)) (fun x24 w23 => bnv (P_X11_enters F w23 (Int32.toInt64 x24)) (fun w25 => (some (gI w25 96 15, w25)))))))) F w0 0 1 = _ from f1]
  generalize foldU (crp T) n 1 (0, b) = q at *
  have k1 : ∀ (w3 : Wd), Fm Tm w2 w3 → gI w3 96 15 = q.2 15 := fun w3 f => by
    rw [(f 96 15 (fun h => Tm96 h)).1, ← f2.2, rM_k (by decide)]
  rw [lt_v]
  refine am_2 _ _ (fun w21 => Int32.toInt64 (bc (gI w21 96 15))) (fun w25 => some (gI w25 96 15, w25)) (fun w3 f => by rw [k1 _ f]; rfl) (fun w2 c1 c2 => ?_)
  rw [k1 _ c1]
  exact am_t f2.1 c1 c2
