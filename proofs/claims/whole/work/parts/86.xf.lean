-- ===== count, ringer, person, row =====
def qCount (r p : Nat) (b : Bl) (T : Tw) (c u l n : Nat) (x : Int32) : Int32 := if x = 0 then nI r else if x = 1 then nI p else if x = 2 then b 8 else if x = 3 then b 9 else if x = 4 then b 10 else if x = 5 then b 11 else if x = 6 then b 12 else if x = 7 then b 13 else if x = 8 then b 14 else if x = 9 then b 15 else if x = 10 then T 4 2 else if x = 11 then T 4 3 else if x = 12 then T 4 4 else if x = 13 then nI c else if x = 14 then nI u else if x = 15 then nI l else if x = 16 then nI n else -100
theorem v_X10_count (F : Nat) {w : Wd} {r p : Nat} {c u l n : Nat} (e0 : gI w 6 2 = nI r) (e1 : gI w 9 2 = nI p) (e2 : gI w 76 3 = nI c) (e3 : gI w 29 2 = nI u) (e4 : gI w 3 1 = nI l) (e5 : gI w 1 1 = nI n) (x : Int32) : P_X10_count F w x = some (qCount r p (bC w 23) (tC w 5) c u l n x, w) := by
  unfold P_X10_count P_X10_countFurther qCount
  rw [← e0, ← e1, ← e2, ← e3, ← e4, ← e5]
  by_cases c0 : x = 0
  · rw [if_pos c0, if_pos c0]
  rw [if_neg c0, if_neg c0]
  by_cases c1 : x = 1
  · rw [if_pos c1, if_pos c1]
  rw [if_neg c1, if_neg c1]
  by_cases c2 : x = 2
  · rw [if_pos c2, if_pos c2]; rfl
  rw [if_neg c2, if_neg c2]
  by_cases c3 : x = 3
  · rw [if_pos c3, if_pos c3]; rfl
  rw [if_neg c3, if_neg c3]
  by_cases c4 : x = 4
  · rw [if_pos c4, if_pos c4]; rfl
  rw [if_neg c4, if_neg c4]
  by_cases c5 : x = 5
  · rw [if_pos c5, if_pos c5]; rfl
  rw [if_neg c5, if_neg c5]
  by_cases c6 : x = 6
  · rw [if_pos c6, if_pos c6]; rfl
  rw [if_neg c6, if_neg c6]
  by_cases c7 : x = 7
  · rw [if_pos c7, if_pos c7]; rfl
  rw [if_neg c7, if_neg c7]
  by_cases c8 : x = 8
  · rw [if_pos c8, if_pos c8]; rfl
  rw [if_neg c8, if_neg c8]
  by_cases c9 : x = 9
  · rw [if_pos c9, if_pos c9]; rfl
  rw [if_neg c9, if_neg c9]
  by_cases c10 : x = 10
  · rw [if_pos c10, if_pos c10]; rfl
  rw [if_neg c10, if_neg c10]
  by_cases c11 : x = 11
  · rw [if_pos c11, if_pos c11]; rfl
  rw [if_neg c11, if_neg c11]
  by_cases c12 : x = 12
  · rw [if_pos c12, if_pos c12]; rfl
  rw [if_neg c12, if_neg c12]
  by_cases c13 : x = 13
  · rw [if_pos c13, if_pos c13]; rfl
  rw [if_neg c13, if_neg c13]
  by_cases c14 : x = 14
  · rw [if_pos c14, if_pos c14]; rfl
  rw [if_neg c14, if_neg c14]
  by_cases c15 : x = 15
  · rw [if_pos c15, if_pos c15]; rfl
  rw [if_neg c15, if_neg c15]
  by_cases c16 : x = 16
  · rw [if_pos c16, if_pos c16]; rfl
  rw [if_neg c16, if_neg c16]
  rfl
theorem v_X11_count (F : Nat) {w : Wd} {T : Tw} {r p N : Nat} (h : MT w T r p N) {c u l n : Nat} (e2 : gI w 88 37 = nI c) (e3 : gI w 88 26 = nI u) (e4 : gI w 88 1 = nI l) (e5 : gI w 88 14 = nI n) (x : Int32) : P_X11_count F w x = some (qCount r p (rM w 95) T c u l n x, sI w 88 0 0) := by
  have f0 : Fm (fun a k => a = 88 ∧ k = 0) w (sI w 88 0 0) := Fm.rfl'.sI ⟨rfl, rfl⟩
  have h0 := MT_fr f0 (fun a k h => by unfold Mp; omega) h
  unfold P_X11_count qCount
  rw [lt_v, h0.1, h0.2.1, h0.2.2.1, h0.2.2.2.1, h0.2.2.2.2.1, gIk (by decide), gIk (by decide), gIk (by decide), gIk (by decide), e2, e3, e4, e5]
  by_cases c0 : x = 0
  · rw [if_pos c0, if_pos c0]
  rw [if_neg c0, if_neg c0]
  by_cases c1 : x = 1
  · rw [if_pos c1, if_pos c1]
  rw [if_neg c1, if_neg c1]
  by_cases c2 : x = 2
  · rw [if_pos c2, if_pos c2]; rw [gd_t (show inB 8 16 = true from rfl), gIa (by decide)]; rfl
  rw [if_neg c2, if_neg c2]
  by_cases c3 : x = 3
  · rw [if_pos c3, if_pos c3]; rw [gd_t (show inB 9 16 = true from rfl), gIa (by decide)]; rfl
  rw [if_neg c3, if_neg c3]
  by_cases c4 : x = 4
  · rw [if_pos c4, if_pos c4]; rw [gd_t (show inB 10 16 = true from rfl), gIa (by decide)]; rfl
  rw [if_neg c4, if_neg c4]
  by_cases c5 : x = 5
  · rw [if_pos c5, if_pos c5]; rw [gd_t (show inB 11 16 = true from rfl), gIa (by decide)]; rfl
  rw [if_neg c5, if_neg c5]
  by_cases c6 : x = 6
  · rw [if_pos c6, if_pos c6]; rw [gd_t (show inB 12 16 = true from rfl), gIa (by decide)]; rfl
  rw [if_neg c6, if_neg c6]
  by_cases c7 : x = 7
  · rw [if_pos c7, if_pos c7]; rw [gd_t (show inB 13 16 = true from rfl), gIa (by decide)]; rfl
  rw [if_neg c7, if_neg c7]
  by_cases c8 : x = 8
  · rw [if_pos c8, if_pos c8]; rw [gd_t (show inB 14 16 = true from rfl), gIa (by decide)]; rfl
  rw [if_neg c8, if_neg c8]
  by_cases c9 : x = 9
  · rw [if_pos c9, if_pos c9]; rw [gd_t (show inB 15 16 = true from rfl), gIa (by decide)]; rfl
  rw [if_neg c9, if_neg c9]
  by_cases c10 : x = 10
  · rw [if_pos c10, if_pos c10]; rw [gd_t (show inB 0 3 = true from rfl)]
  rw [if_neg c10, if_neg c10]
  by_cases c11 : x = 11
  · rw [if_pos c11, if_pos c11]; rw [gd_t (show inB 1 3 = true from rfl)]
  rw [if_neg c11, if_neg c11]
  by_cases c12 : x = 12
  · rw [if_pos c12, if_pos c12]; rw [gd_t (show inB 2 3 = true from rfl)]
  rw [if_neg c12, if_neg c12]
  by_cases c13 : x = 13
  · rw [if_pos c13, if_pos c13]
  rw [if_neg c13, if_neg c13]
  by_cases c14 : x = 14
  · rw [if_pos c14, if_pos c14]
  rw [if_neg c14, if_neg c14]
  by_cases c15 : x = 15
  · rw [if_pos c15, if_pos c15]
  rw [if_neg c15, if_neg c15]
  by_cases c16 : x = 16
  · rw [if_pos c16, if_pos c16]
  rw [if_neg c16, if_neg c16]

def qRg (T : Tw) (b : Bl) (r : Nat) (x y : Int32) : Option Int32 := if x < 0 then none else if nI r ≤ x then none else if y = 0 then some (T 0 x.toNatClampNeg) else if y = 1 then some (T 1 x.toNatClampNeg) else if y = 2 then some (b x.toNatClampNeg) else if y = 3 then some (bt (b 8) x.toNatClampNeg) else if y = 4 then some (loudT T b (bit1 x.toNatClampNeg)) else none
def qPe (T : Tw) (b : Bl) (p : Nat) (x y : Int32) : Option Int32 := if x < 0 then none else if nI p ≤ x then none else if y = 0 then some (T 2 x.toNatClampNeg) else if y = 1 then some (T 3 x.toNatClampNeg) else if y = 2 then some (bt (b 15) x.toNatClampNeg) else none
theorem bt_flag (s : Int32) (i : Nat) : (if bt s i = 0 then (0 : Int32) else 1) = bt s i := by
  rcases bt01 s i with h | h
  · rw [h]; rfl
  · rw [h]; rfl
theorem v_X10_ringer {F : Nat} (hF : 100 ≤ F) {w : Wd} (ok : okT w 5) {r : Nat} (hr : r ≤ 8) (er : gI w 6 2 = nI r) (x y : Int32) : ∃ w2, P_X10_ringer F w x y = some (qRg (tC w 5) (bC w 23) r x y, w2) ∧ Fr Scr w w2 := by
  unfold P_X10_ringer qRg
  rw [bnd_r (v_X5_hasx F w 6 x), er]
  rcases who hr x with h | h | ⟨i, hi, rfl⟩
  · rw [if_pos h, if_pos rfl, if_pos h]; exact ⟨w, rfl, Fr.rfl'⟩
  · by_cases h0 : x < 0
    · rw [if_pos h0, if_pos rfl, if_pos h0]; exact ⟨w, rfl, Fr.rfl'⟩
    · rw [if_neg h0, if_pos h, if_pos rfl, if_neg h0, if_pos h]; exact ⟨w, rfl, Fr.rfl'⟩
  · rw [if_neg (nI_pos (by omega)), if_neg (nI_ge hi (by omega)), if_neg (n8gt (by omega)), if_neg (show ¬ (1 : Int32) = 0 from by decide), if_neg (nI_pos (by omega)), if_neg (nI_ge hi (by omega)), nI_clamp (by omega)]
    by_cases y0 : y = 0
    · rw [if_pos y0, if_pos y0, bnd_r (v_X5_firstOf F w 6 i (by omega))]; exact ⟨w, rfl, Fr.rfl'⟩
    rw [if_neg y0, if_neg y0]
    by_cases y1 : y = 1
    · rw [if_pos y1, if_pos y1, bnd_r (v_X5_secondOf F w 6 i (by omega))]; exact ⟨w, rfl, Fr.rfl'⟩
    rw [if_neg y1, if_neg y1]
    by_cases y2 : y = 2
    · rw [if_pos y2, if_pos y2, bnd_r (v_X1_tiredOf F w 23 i (by omega))]
      refine ⟨w, ?_, Fr.rfl'⟩
      show some (some (gI w 24 i), w) = some (some (if i < 8 then gI w 24 i else _), w)
      rw [if_pos (by omega)]
    rw [if_neg y2, if_neg y2]
    by_cases y3 : y = 3
    · rw [if_pos y3, if_pos y3, bnd_r (v_X1_holdsx F w 23 i (by omega)), lt_v, bt_flag]; exact ⟨w, rfl, Fr.rfl'⟩
    rw [if_neg y3, if_neg y3]
    by_cases y4 : y = 4
    · obtain ⟨w2, a1, a2⟩ := v_X9_volume hF w 5 23 ok (ishlI 1 (nI i))
      rw [if_pos y4, if_pos y4, bnd_r a1]; exact ⟨w2, rfl, a2⟩
    · rw [if_neg y4, if_neg y4]; exact ⟨w, rfl, Fr.rfl'⟩
/-- the model's answer where it may refuse -/
def AskR {α : Type} (o : Option (α × Wd)) (q : Option α) (w : Wd) : Prop := ∃ v w2, o = some (v, w2) ∧ Fm QN w w2 ∧ gI w2 88 0 = (if q.isSome then 0 else 1) ∧ ∀ z, q = some z → v = z
theorem askR_no {F : Nat} {w w1 : Wd} (f : Fm QN w w1) : AskR (bnd (P_X11_refuse F w1) (fun x8 w7 => some (x8, w7))) none w := ⟨0, sI w1 88 0 1, rfl, f.sI (.inl ⟨rfl, .inl rfl⟩), gIs, fun z h => absurd h (by simp)⟩
theorem askR_yes {α : Type} {w w1 : Wd} {v : α} (f : Fm QN w w1) (h0 : gI w1 88 0 = 0) : AskR (some (v, w1)) (some v) w := ⟨v, w1, rfl, f, h0, fun z h => Option.some.inj h⟩
theorem v_X11_ringer {F : Nat} (hF : 100 ≤ F) {w : Wd} {T : Tw} {b : Bl} {r p N : Nat} (g : MG w T b r p N) (x y : Int32) : AskR (P_X11_ringer F w x y) (qRg T b r x y) w := by
  have hr := g.1.1
  have f0 : Fm QN w (sI w 88 0 0) := fm_t0
  have g0 := MG_QN g f0
  have z0 : gI (sI w 88 0 0) 88 0 = 0 := gIs
  have hin : ∀ i, i < r → inB (nI i) 8 = true := fun i hi => inB_n (by omega) (by omega)
  unfold P_X11_ringer qRg
  rw [lt_v, bnd_r (v_X11_isRinger F _ x), g0.2.1.1]
  unfold K_X11_ringer_25
  rcases who hr x with h | h | ⟨i, hi, rfl⟩
  · rw [if_pos h, if_pos rfl, if_pos h]; exact askR_no f0
  · by_cases h0 : x < 0
    · rw [if_pos h0, if_pos rfl, if_pos h0]; exact askR_no f0
    · have h1 : nI r - 1 < x := by
        obtain ⟨j, hj, ej⟩ := nI_of h0
        rw [ej] at h ⊢
        have hh := (nI_leI (by omega) hj).mp h
        cases r with
        | zero => exact Int32.lt_of_lt_of_le (show nI 0 - 1 < 0 from by decide) (nI_pos' hj)
        | succ r => rw [nI_pred]; exact nI_lt (by omega) hj
      rw [if_neg h0, if_pos h1, if_pos rfl, if_neg h0, if_pos h]; exact askR_no f0
  · have h1 : ¬ nI r - 1 < nI i := by
      obtain ⟨r', rfl⟩ : ∃ q, r = q + 1 := ⟨r - 1, by omega⟩
      rw [nI_pred]; exact nI_nlt (by omega) (by omega)
    rw [if_neg (nI_pos (by omega)), if_neg h1, if_neg (show ¬ (1 : Int32) = 0 from by decide), if_neg (nI_pos (by omega)), if_neg (nI_ge hi (by omega)), in_r F _ y 0 4, nI_clamp (by omega)]
    have ny : ∀ k : Int32, 0 ≤ k → y < 0 → ¬ y = k := fun k hk hy e => by rw [e] at hy; exact absurd hk (Int32.not_le.mpr hy)
    have my : ∀ k : Int32, k ≤ 4 → ¬ y ≤ 4 → ¬ y = k := fun k hk hy e => hy (by rw [e]; exact hk)
    by_cases y5 : y < 0
    · rw [if_pos y5, if_neg (ny 0 (by decide) y5), if_neg (ny 1 (by decide) y5), if_neg (ny 2 (by decide) y5), if_neg (ny 3 (by decide) y5), if_neg (ny 4 (by decide) y5)]; exact askR_no f0
    rw [if_neg y5]
    by_cases y6 : y ≤ 4
    · rw [if_pos y6]
      by_cases y0 : y = 0
      · rw [if_pos y0, if_pos y0, gd_t (hin i hi), (g0.2.1.2.2.2.2.2.1 i hi).1]; exact askR_yes f0 z0
      rw [if_neg y0, if_neg y0]
      by_cases y1 : y = 1
      · rw [if_pos y1, if_pos y1, gd_t (hin i hi), (g0.2.1.2.2.2.2.2.1 i hi).2]; exact askR_yes f0 z0
      rw [if_neg y1, if_neg y1]
      by_cases y2 : y = 2
      · rw [if_pos y2, if_pos y2, gd_t (inB_n (by omega) (by omega)), ← rM_k (w := sI w 88 0 0) (a := 95) (k := i) (by omega), g0.2.2.1]; exact askR_yes f0 z0
      rw [if_neg y2, if_neg y2]
      have e8 : gI (sI w 88 0 0) 95 8 = b 8 := by rw [← g0.2.2.1]; rfl
      by_cases y3 : y = 3
      · rw [if_pos y3, if_pos y3, gd_t (show inB 8 16 = true from rfl), bnd_r (v_X11_has F _ _ i), bnd_r (v_X11_flag F _ _), bt_flag, e8]; exact askR_yes f0 z0
      rw [if_neg y3, if_neg y3]
      obtain ⟨k, -, k2, rfl⟩ := rng y5 y6 (A := 0) (B := 4)
      have y4 : nI k = 4 := by
        rcases (show k = 0 ∨ k = 1 ∨ k = 2 ∨ k = 3 ∨ k = 4 by omega) with rfl | rfl | rfl | rfl | rfl
        · exact absurd rfl y0
        · exact absurd rfl y1
        · exact absurd rfl y2
        · exact absurd rfl y3
        · rfl
      obtain ⟨w2, a1, a2⟩ := v_X11_loudOf (F := F) hF g0.1 g0.2.1 (a := 95) (.inl rfl) (fun q h1 h2 => by
        have := (g0.2.2.2.1 q h1 h2).1
        rw [← g0.2.2.1, rM_k (by omega)] at this; exact this) (ishlI 1 (nI i))
      rw [g0.2.2.1] at a1
      rw [if_pos y4, bnd_r a1]
      exact askR_yes (f0.tr (a2.imp (fun _ _ h => Sc_QN h))) (by rw [(a2 88 0 (by unfold Sc; omega)).1]; exact z0)
    · rw [if_neg y6, if_neg (my 0 (by decide) y6), if_neg (my 1 (by decide) y6), if_neg (my 2 (by decide) y6), if_neg (my 3 (by decide) y6), if_neg (my 4 (by decide) y6)]; exact askR_no f0
theorem v_X10_person (F : Nat) {w : Wd} {p : Nat} (hp : p ≤ 8) (ep : gI w 9 2 = nI p) (x y : Int32) : P_X10_person F w x y = some (qPe (tC w 5) (bC w 23) p x y, w) := by
  unfold P_X10_person qPe
  rw [bnd_r (v_X5_hasx F w 9 x), ep]
  rcases who hp x with h | h | ⟨i, hi, rfl⟩
  · rw [if_pos h, if_pos rfl, if_pos h]
  · by_cases h0 : x < 0
    · rw [if_pos h0, if_pos rfl, if_pos h0]
    · rw [if_neg h0, if_pos h, if_pos rfl, if_neg h0, if_pos h]
  · rw [if_neg (nI_pos (by omega)), if_neg (nI_ge hi (by omega)), if_neg (n8gt (by omega)), if_neg (show ¬ (1 : Int32) = 0 from by decide), if_neg (nI_pos (by omega)), if_neg (nI_ge hi (by omega)), nI_clamp (by omega)]
    by_cases y0 : y = 0
    · rw [if_pos y0, if_pos y0, bnd_r (v_X5_firstOf F w 9 i (by omega))]; rfl
    rw [if_neg y0, if_neg y0]
    by_cases y1 : y = 1
    · rw [if_pos y1, if_pos y1, bnd_r (v_X5_secondOf F w 9 i (by omega))]; rfl
    rw [if_neg y1, if_neg y1]
    by_cases y2 : y = 2
    · rw [if_pos y2, if_pos y2]; rfl
    · rw [if_neg y2, if_neg y2]
theorem v_X11_person {F : Nat} {w : Wd} {T : Tw} {b : Bl} {r p N : Nat} (g : MG w T b r p N) (x y : Int32) : AskR (P_X11_person F w x y) (qPe T b p x y) w := by
  have hp := g.1.2.1
  have f0 : Fm QN w (sI w 88 0 0) := fm_t0
  have g0 := MG_QN g f0
  have z0 : gI (sI w 88 0 0) 88 0 = 0 := gIs
  unfold P_X11_person qPe
  rw [lt_v, g0.2.1.2.1, in_r F _ x 0 (nI p - 1)]
  unfold K_X11_person_33
  rcases who hp x with h | h | ⟨i, hi, rfl⟩
  · rw [if_pos h, if_pos h]; exact askR_no f0
  · by_cases h0 : x < 0
    · rw [if_pos h0, if_pos h0]; exact askR_no f0
    · have h1 : ¬ x ≤ nI p - 1 := by
        obtain ⟨j, hj, ej⟩ := nI_of h0
        rw [ej] at h ⊢
        have hh := (nI_leI (by omega) hj).mp h
        cases p with
        | zero => exact fun q => absurd (Int32.le_trans (nI_pos' hj) q) (by decide)
        | succ p => rw [nI_pred]; exact nI_ge (by omega) hj
      rw [if_neg h0, if_neg h1, if_neg h0, if_pos h]; exact askR_no f0
  · have h1 : nI i ≤ nI p - 1 := by
      obtain ⟨p', rfl⟩ : ∃ q, p = q + 1 := ⟨p - 1, by omega⟩
      rw [nI_pred]; exact nI_le (by omega) (by omega)
    rw [if_neg (nI_pos (by omega)), if_pos h1, if_neg (nI_pos (by omega)), if_neg (nI_ge hi (by omega)), in_r F _ y 0 2, nI_clamp (by omega)]
    have ny : ∀ k : Int32, 0 ≤ k → y < 0 → ¬ y = k := fun k hk hy e => by rw [e] at hy; exact absurd hk (Int32.not_le.mpr hy)
    have my : ∀ k : Int32, k ≤ 2 → ¬ y ≤ 2 → ¬ y = k := fun k hk hy e => hy (by rw [e]; exact hk)
    have hin : inB (nI i) 8 = true := inB_n (by omega) (by omega)
    by_cases y5 : y < 0
    · rw [if_pos y5, if_neg (ny 0 (by decide) y5), if_neg (ny 1 (by decide) y5), if_neg (ny 2 (by decide) y5)]; exact askR_no f0
    rw [if_neg y5]
    by_cases y6 : y ≤ 2
    · rw [if_pos y6]
      by_cases y0 : y = 0
      · rw [if_pos y0, if_pos y0, gd_t hin, (g0.2.1.2.2.2.2.2.2.1 i hi).1]; exact askR_yes f0 z0
      rw [if_neg y0, if_neg y0]
      by_cases y1 : y = 1
      · rw [if_pos y1, if_pos y1, gd_t hin, (g0.2.1.2.2.2.2.2.2.1 i hi).2]; exact askR_yes f0 z0
      rw [if_neg y1, if_neg y1]
      have e15 : gI (sI w 88 0 0) 95 15 = b 15 := by rw [← g0.2.2.1]; rfl
      obtain ⟨k, -, k2, rfl⟩ := rng y5 y6 (A := 0) (B := 2)
      have y2 : nI k = 2 := by
        rcases (show k = 0 ∨ k = 1 ∨ k = 2 by omega) with rfl | rfl | rfl
        · exact absurd rfl y0
        · exact absurd rfl y1
        · rfl
      rw [if_pos y2, gd_t (show inB 15 16 = true from rfl), bnd_r (v_X11_has F _ _ i), bnd_r (v_X11_flag F _ _), bt_flag, e15]; exact askR_yes f0 z0
    · rw [if_neg y6, if_neg (my 0 (by decide) y6), if_neg (my 1 (by decide) y6), if_neg (my 2 (by decide) y6)]; exact askR_no f0
def qRow (L : List Int64) (x : Int32) : Option Int64 := if x < 0 then none else if nI L.length ≤ x then none else some (L.getD x.toNatClampNeg 0)
theorem v_X10_row (F : Nat) {w : Wd} {L : List Int64} (hL : L.length ≤ 6) (h : Tl w L) (x : Int32) : P_X10_row F w x = some (qRow L x, w) := by
  unfold P_X10_row qRow
  rw [h.1]
  by_cases h0 : x < 0
  · rw [if_pos h0, if_pos h0]; rfl
  rw [if_neg h0, if_neg h0]
  rcases who (r := L.length) (by omega) x with q | q | ⟨i, hi, rfl⟩
  · exact absurd q h0
  · rw [if_neg (Int32.not_lt.mpr q), if_pos q]; rfl
  · have e : P_X7_at F w (nI i) = some (L.getD i 0, w) := by
      unfold P_X7_at
      rw [if_neg h0, h.1, if_neg (nI_ge hi (by omega)), if_neg (show ¬ (6 : Int32) ≤ nI i from nI_ge (a := i) (b := 6) (by omega) (by decide)), gd_t (inB_n (by omega) (by omega)), nI_clamp (by omega), h.2 i hi]
    rw [if_pos (nI_lt hi (by omega)), if_neg (nI_ge hi (by omega)), nI_clamp (by omega), bnd_r e]
theorem v_X11_row {F : Nat} {w : Wd} {L : List Int64} (hL : L.length ≤ 6) (h : TlM w L) (x : Int32) : AskR (P_X11_row F w x) (qRow L x) w := by
  have f0 : Fm QN w (sI w 88 0 0) := fm_t0
  have z0 : gI (sI w 88 0 0) 88 0 = 0 := gIs
  have no : AskR (lt (sI (sI w 88 0 0) 88 0 1) (fun w7 => some ((0 : Int64), w7))) none w := ⟨0, _, rfl, f0.sI (.inl ⟨rfl, .inl rfl⟩), gIs, fun z h => absurd h (by simp)⟩
  unfold P_X11_row qRow
  rw [lt_v, gIk (by decide), h.1, in_r F _ x 0 (nI L.length - 1)]
  rcases who (r := L.length) (by omega) x with q | q | ⟨i, hi, rfl⟩
  · rw [if_pos q, if_pos q]; exact no
  · by_cases h0 : x < 0
    · rw [if_pos h0, if_pos h0]; exact no
    · have h1 : ¬ x ≤ nI L.length - 1 := by
        obtain ⟨j, hj, ej⟩ := nI_of h0
        rw [ej] at q ⊢
        have hh := (nI_leI (by omega) hj).mp q
        generalize L.length = p at *
        cases p with
        | zero => exact fun q => absurd (Int32.le_trans (nI_pos' hj) q) (by decide)
        | succ p => rw [nI_pred]; exact nI_ge (by omega) hj
      rw [if_neg h0, if_neg h1, if_neg h0, if_pos q]; exact no
  · have h1 : nI i ≤ nI L.length - 1 := by
      generalize L.length = p at *
      obtain ⟨p', rfl⟩ : ∃ q, p = q + 1 := ⟨p - 1, by omega⟩
      rw [nI_pred]; exact nI_le (by omega) (by omega)
    rw [if_neg (nI_pos (by omega)), if_pos h1, if_neg (nI_pos (by omega)), if_neg (nI_ge hi (by omega)), gd_t (inB_n (by omega) (by omega)), nI_clamp (by omega)]
    have : gJ (sI w 88 0 0) 89 i = L.getD i 0 := h.2 i hi
    rw [this]; exact askR_yes f0 z0
