-- ===== swap, ready =====
theorem v_X1_holdsx (F : Nat) (w : Wd) (a i : Nat) (hi : i < 8) : P_X1_holds F w a (nI i) = some (bt (gI w a 1) i, w) := by
  unfold P_X1_holds
  rw [if_neg (nI_pos (lt31 (by omega))), if_neg (n8gt hi)]
  show lt (if bt (gI w a 1) i = 0 then (0 : Int32) else 1) _ = _
  rcases bt01 (gI w a 1) i with h | h <;> rw [h] <;> rfl
abbrev Sw3 : Type := Option (Nat × Nat × Nat)
def cS1 (o : Sw3) : Int32 := match o with | none => -1 | some q => nI q.1
def cS2 (o : Sw3) : Int32 := match o with | none => 0 | some q => nI q.2.1
def cS3 (o : Sw3) : Int32 := match o with | none => 0 | some q => nI q.2.2
def mS1 (o : Sw3) : Int32 := match o with | none => -2 | some q => nI q.1
def mS2 (o : Sw3) : Int32 := match o with | none => -1 | some q => nI q.2.1
def mS3 (o : Sw3) : Int32 := match o with | none => -1 | some q => nI q.2.2
def okS (o : Sw3) : Prop := ∀ q, o = some q → q.1 ≤ 999 ∧ q.2.1 < 8 ∧ q.2.2 < 8
def btr3 (o : Sw3) (l a b : Nat) : Sw3 := match o with
  | none => some (l, a, b)
  | some q => if q.1 < l then some (l, a, b) else some q
theorem okS_b {o : Sw3} {l a b : Nat} (h : okS o) (hl : l ≤ 999) (ha : a < 8) (hb : b < 8) : okS (btr3 o l a b) := by
  intro q hq
  cases o with
  | none => cases hq; exact ⟨hl, ha, hb⟩
  | some q0 =>
    unfold btr3 at hq
    simp only at hq
    split at hq
    · cases hq; exact ⟨hl, ha, hb⟩
    · cases hq; exact h _ rfl
theorem btr3_c {o : Sw3} {l a b : Nat} (h : okS o) (hl : l ≤ 999) : (nI l ≤ cS1 o → btr3 o l a b = o) ∧ (¬ nI l ≤ cS1 o → btr3 o l a b = some (l, a, b)) := by
  cases o with
  | none => exact ⟨fun q => absurd (Int32.le_trans (nI_pos' (n := l) (by omega)) q) (by decide), fun _ => rfl⟩
  | some q0 =>
    have h0 := (h q0 rfl).1
    unfold btr3
    simp only
    refine ⟨fun q => ?_, fun q => ?_⟩
    · rw [if_neg]
      have := (nI_leI (a := l) (b := q0.1) (by omega) (by omega)).mp q
      omega
    · rw [if_pos]
      have : ¬ l ≤ q0.1 := fun q2 => q ((nI_leI (a := l) (b := q0.1) (by omega) (by omega)).mpr q2)
      omega
theorem btr3_m {o : Sw3} {l a b : Nat} (h : okS o) (hl : l ≤ 999) : (nI l ≤ mS1 o → btr3 o l a b = o) ∧ (¬ nI l ≤ mS1 o → btr3 o l a b = some (l, a, b)) := by
  cases o with
  | none => exact ⟨fun q => absurd (Int32.le_trans (nI_pos' (n := l) (by omega)) q) (by decide), fun _ => rfl⟩
  | some q0 =>
    have h0 := (h q0 rfl).1
    unfold btr3
    simp only
    refine ⟨fun q => ?_, fun q => ?_⟩
    · rw [if_neg]
      have := (nI_leI (a := l) (b := q0.1) (by omega) (by omega)).mp q
      omega
    · rw [if_pos]
      have : ¬ l ≤ q0.1 := fun q2 => q ((nI_leI (a := l) (b := q0.1) (by omega) (by omega)).mpr q2)
      omega
/-- those at the rope, one gone, one come -/
def swS (s : Int32) (a b : Nat) : Int32 := (s &&& (bit1 a ^^^ (-1))) ||| bit1 b
def swp (T : Tw) (c : Bl) (r a b : Nat) (o : Sw3) : Sw3 := if bt (c 8) a = 0 then o else if r ≤ b then o else if bt (c 8) b = 0 then btr3 o (alone T c (swS (c 8) a b) 999) a b else o
def swT (T : Tw) (c : Bl) (r : Nat) (M : Nat) (a : Nat) (o : Sw3) : Sw3 := foldU (swp T c r a) M 0 o
def qSwap (T : Tw) (c : Bl) (r : Nat) : Ans := match foldU (swT T c r 8) 8 0 none with
  | none => (-2, none)
  | some q => (nI q.1, some [i64 (nI q.2.1), i64 (nI q.2.2)])
theorem cS1_neg {o : Sw3} (h : okS o) : (-1 : Int32) ≤ cS1 o := by
  cases o with
  | none => exact Int32.le_refl _
  | some q =>
    have := h q rfl
    exact Int32.le_trans (by decide) (nI_pos' (n := q.1) (by omega))
theorem l_X10_swap {F : Nat} (hF : 2000 ≤ F) {w : Wd} (s : St w) {r : Nat} (hr : r ≤ 8) (er : gI w 6 2 = nI r) (a : Nat) (ha : a < 8) (kk : Wd → Int32 → Int32 → Int32 → Option (Int32 × Wd)) (u : Wd) (hu : Fr SP w u) (o : Sw3) (ho : okS o) : ∃ w2, L_X10_swap_19 F (nI a) kk F u (cS1 o) (cS2 o) (cS3 o) 0 = kk w2 (cS1 (swT (tC w 5) (bC w 23) r 8 a o)) (cS2 (swT (tC w 5) (bC w 23) r 8 a o)) (cS3 (swT (tC w 5) (bC w 23) r 8 a o)) ∧ Fr SP w w2 ∧ okS (swT (tC w 5) (bC w 23) r 8 a o) := by
  obtain ⟨w2, e1, e2⟩ := lpG (fun n w o i => L_X10_swap_19 F (nI a) kk n w (cS1 o) (cS2 o) (cS3 o) i)
    (fun w o => kk w (cS1 o) (cS2 o) (cS3 o)) (swp (tC w 5) (bC w 23) r a) (fun u o _ => Fr SP w u ∧ okS o) 8
    (fun n u o hI => by
      show L_X10_swap_19 F (nI a) _ (n + 1) u _ _ _ _ = _
      rw [L_X10_swap_19, if_pos (show (8 : Int32) ≤ nI 8 from Int32.le_refl _)])
    (fun n u o j hj hI => by
      show ∃ w2, L_X10_swap_19 F (nI a) _ (n + 1) u _ _ _ _ = L_X10_swap_19 F (nI a) _ n w2 _ _ _ _ ∧ _
      have e6 : gI u 6 2 = nI r := by rw [(hI.1 6 (by unfold SP Scr; omega)).1]; exact er
      have e23 : gI u 23 1 = bC w 23 8 := (hI.1 23 (by unfold SP Scr; omega)).1 1
      have no : ∀ K : Wd → Int32 → Int32 → Int32 → Int32 → Option (Int32 × Wd), K_X10_swap_107 F (nI a) kk K u (cS1 o) (cS2 o) (cS3 o) (nI j) (-1) = K u (cS1 o) (cS2 o) (cS3 o) (nI (j + 1)) := fun K => by
        unfold K_X10_swap_107 K_X10_swap_124
        rw [lt_v, lt_v, nI_1, if_pos (cS1_neg hI.2)]
      rw [L_X10_swap_19, if_neg (n8gt hj), bnd_r (v_X1_holdsx F u 23 a ha), e23]
      unfold swp K_X10_swap_69 K_X10_swap_70
      by_cases h1 : bt (bC w 23 8) a = 0
      · rw [if_pos h1, if_pos rfl, no]
        simp only [if_pos h1]
        exact ⟨u, rfl, hI⟩
      · simp only [if_neg h1]
        rw [bnd_r (v_X5_has F u 6 j hj), e6]
        by_cases h2 : r ≤ j
        · rw [if_pos (nI_le h2 (by omega)), if_pos rfl, if_pos trivial, no]
          simp only [if_pos h2]
          exact ⟨u, rfl, hI⟩
        · simp only [if_neg h2]
          rw [if_neg (nI_ge (by omega) (by omega)), if_neg (show ¬ (1 : Int32) = 0 by decide), bnd_r (v_X1_holdsx F u 23 j hj), e23, lt_v]
          by_cases h3 : bt (bC w 23 8) j = 0
          · simp only [if_pos h3]
            obtain ⟨u2, f1, f2⟩ := v_X10_ringsAlone hF s.1 hI.1 (swS (bC w 23 8) a j) 999 (by omega)
            have hle := alone_le (tC w 5) (bC w 23) (swS (bC w 23 8) a j) 999
            rw [if_neg (show ¬ (1 : Int32) = 0 by decide), bnd_r (show P_X10_ringsAlone F u (((bC w 23 8) &&& ((ishlI 1 (nI a)) ^^^ ((-1)))) ||| (ishlI 1 (nI j))) 999 = _ from f1)]
            refine ⟨u2, ?_, f2, okS_b hI.2 hle ha hj⟩
            unfold K_X10_swap_107 K_X10_swap_124
            rw [lt_v, lt_v, nI_1]
            obtain ⟨b1, b2⟩ := btr3_c (a := a) (b := j) hI.2 hle
            by_cases hq : nI (alone (tC w 5) (bC w 23) (swS (bC w 23 8) a j) 999) ≤ cS1 o
            · rw [if_pos hq, b1 hq]
            · rw [if_neg hq, b2 hq]; rfl
          · simp only [if_neg h3]
            rw [if_pos trivial, no]
            exact ⟨u, rfl, hI⟩)
    8 0 (by omega) F (by omega) u o ⟨hu, ho⟩
  exact ⟨w2, e1, e2⟩
theorem v_X10_swap {F : Nat} (hF : 2000 ≤ F) {w : Wd} (s : St w) {r : Nat} (hr : r ≤ 8) (er : gI w 6 2 = nI r) : AskC (P_X10_swap F w) (qSwap (tC w 5) (bC w 23) r) w := by
  unfold P_X10_swap qSwap
  obtain ⟨w2, e1, e2, e3⟩ := lpG (fun n w o i => L_X10_swap_9 F (fun w x5 x6 x7 => (if (0 : Int32) ≤ x5 then bnv (P_X10_tell_ F w (Int32.toInt64 x6) (Int32.toInt64 x7)) (fun w58 => some (x5, w58)) else some ((-2), w))) n w (cS1 o) (cS2 o) (cS3 o) i)
    (fun w o => (if (0 : Int32) ≤ cS1 o then bnv (P_X10_tell_ F w (Int32.toInt64 (cS2 o)) (Int32.toInt64 (cS3 o))) (fun w58 => some (cS1 o, w58)) else some ((-2), w)))
    (swT (tC w 5) (bC w 23) r 8) (fun u o _ => Fr SP w u ∧ okS o) 8
    (fun n u o hI => by
      show L_X10_swap_9 F _ (n + 1) u _ _ _ _ = _
      rw [L_X10_swap_9, if_pos (show (8 : Int32) ≤ nI 8 from Int32.le_refl _)])
    (fun n u o j hj hI => by
      show ∃ w2, L_X10_swap_9 F _ (n + 1) u _ _ _ _ = L_X10_swap_9 F _ n w2 _ _ _ _ ∧ _
      obtain ⟨u2, f1, f2⟩ := l_X10_swap hF s hr er j hj (fun w x14 x15 x16 => lt (nI j + 1 : Int32) (fun x55 => L_X10_swap_9 F (fun w x5 x6 x7 => (if (0 : Int32) ≤ x5 then bnv (P_X10_tell_ F w (Int32.toInt64 x6) (Int32.toInt64 x7)) (fun w58 => some (x5, w58)) else some ((-2), w))) n w x14 x15 x16 x55)) u hI.1 o hI.2
      rw [L_X10_swap_9, if_neg (n8gt hj), f1, lt_v, nI_1]
      exact ⟨u2, rfl, f2⟩)
    8 0 (by omega) F (by omega) w none ⟨Fr.rfl', fun q hq => by cases hq⟩
  rw [show L_X10_swap_9 F _ F w (-1) 0 0 0 = _ from e1]
  generalize foldU (swT (tC w 5) (bC w 23) r 8) 8 0 none = o at *
  cases o with
  | none =>
    show AskC (if (0 : Int32) ≤ -1 then _ else _) (-2, none) w
    rw [if_neg (by decide)]
    exact ask_n e2 (fun b h => SP_n h)
  | some q =>
    have hq := e3 q rfl
    show AskC (if (0 : Int32) ≤ nI q.1 then bnv (P_X10_tell_ F w2 (Int32.toInt64 (nI q.2.1)) (Int32.toInt64 (nI q.2.2))) _ else _) (nI q.1, some [i64 (nI q.2.1), i64 (nI q.2.2)]) w
    obtain ⟨w3, f1, f2, f3⟩ := v_X10_tell2 F w2 (Int32.toInt64 (nI q.2.1)) (Int32.toInt64 (nI q.2.2))
    rw [if_pos (nI_pos' (by omega)), bnv_r f1]
    exact ask_t (e2.imp (fun b h => SP_QP h)) f2 f3
/-- a rope is a set of those that are there -/
def okRp (b : Bl) (r : Nat) : Prop := ∃ s : Nat, s < 2 ^ r ∧ b 8 = nI s
theorem swS_N {r s a b : Nat} (hr : r ≤ 8) (hs : s < 2 ^ r) (ha : a < r) (hb : b < r) : ∃ t : Nat, t < 2 ^ r ∧ swS (nI s) a b = nI t := by
  have h : ∀ r, r < 9 → ∀ s, s < 2 ^ r → ∀ a, a < r → ∀ b, b < r → (swS (nI s) a b).toNatClampNeg < 2 ^ r ∧ swS (nI s) a b = nI (swS (nI s) a b).toNatClampNeg := by decide +kernel
  obtain ⟨h1, h2⟩ := h r (by omega) s hs a ha b hb
  exact ⟨_, h1, h2⟩
theorem swT_r {T : Tw} {c : Bl} {r : Nat} (hr : r ≤ 8) (a : Nat) (o : Sw3) : swT T c r 8 a o = swT T c r r a o := by
  unfold swT
  rw [show (8 : Nat) = r + (8 - r) from by omega, foldU_split, foldU_id (swp T c r a) (8 - r) (0 + r)]
  intro i s h1 h2
  unfold swp
  split
  · rfl
  · rw [if_pos (by omega)]
theorem swF_r {T : Tw} {c : Bl} {r : Nat} (hr : r ≤ 8) (hz : zB c r) (o : Sw3) : foldU (swT T c r 8) 8 0 o = foldU (swT T c r r) r 0 o := by
  rw [show foldU (swT T c r 8) 8 0 o = foldU (swT T c r 8) (r + (8 - r)) 0 o from by rw [show r + (8 - r) = 8 from by omega], foldU_split, foldU_id (swT T c r 8) (8 - r) (0 + r)]
  · exact foldU_congr _ _ r 0 o (fun i s _ _ => swT_r hr i s)
  · intro i s h1 h2
    unfold swT
    refine foldU_id _ _ _ _ (fun k t _ _ => ?_)
    unfold swp
    rw [(hz.1 i (by omega) (by omega)).2, if_pos rfl]
theorem l_X11_swap {F : Nat} (hF : 2000 ≤ F) {w : Wd} {T : Tw} {c : Bl} {r p N : Nat} (g : MG w T c r p N) (hc : okRp c r) (a : Nat) (ha : a < r) (kk : Wd → Int32 → Int32 → Int32 → Option (Int32 × Wd)) (u : Wd) (hu : Fm QN w u) (o : Sw3) (ho : okS o) : ∃ w2, L_X11_swap_27 F (nI a) kk F u (mS1 o) (mS2 o) (mS3 o) 0 = kk w2 (mS1 (swT T c r r a o)) (mS2 (swT T c r r a o)) (mS3 (swT T c r r a o)) ∧ Fm QN w w2 ∧ okS (swT T c r r a o) := by
  have hr := g.1.1
  obtain ⟨s, hs, es⟩ := hc
  obtain ⟨w2, e1, e2⟩ := lpG (fun n w o i => L_X11_swap_27 F (nI a) kk n w (mS1 o) (mS2 o) (mS3 o) i)
    (fun w o => kk w (mS1 o) (mS2 o) (mS3 o)) (swp T c r a) (fun u o _ => Fm QN w u ∧ okS o) r
    (fun n u o hI => by
      have e6 := (MG_QN g hI.1).2.1.1
      show L_X11_swap_27 F (nI a) _ (n + 1) u _ _ _ _ = _
      rw [L_X11_swap_27, e6, if_pos (Int32.le_refl _)])
    (fun n u o j hj hI => by
      have e6 := (MG_QN g hI.1).2.1.1
      have e8 : gI u 95 8 = c 8 := now_k g (hI.1.imp (fun _ _ h => QN_QM h)) (by decide)
      show ∃ w2, L_X11_swap_27 F (nI a) _ (n + 1) u _ _ _ _ = L_X11_swap_27 F (nI a) _ n w2 _ _ _ _ ∧ _
      rw [L_X11_swap_27, e6, if_neg (nI_ge hj (by omega))]
      unfold swp K_X11_swap_109
      simp only [gd1, GL, lt_v]
      rw [e8, bnd_r (v_X11_has F u _ a), nI_1]
      by_cases h1 : bt (c 8) a = 0
      · simp only [if_pos h1]
        exact ⟨u, rfl, hI⟩
      · simp only [if_neg h1, if_neg (show ¬ r ≤ j by omega)]
        rw [e8, bnd_r (v_X11_has F u _ j)]
        by_cases h3 : bt (c 8) j = 0
        · simp only [if_pos h3]
          obtain ⟨t, ht, et⟩ := swS_N hr hs ha hj
          rw [← es] at et
          obtain ⟨u2, f1, f2⟩ := ms_rungBy hF g hI.1 t ht 999 (by omega)
          rw [← et] at f1
          have hle := alone_le T c (swS (c 8) a j) 999
          rw [e8, bnd_r (show P_X11_rungBy F u (((c 8) &&& ((ishlI 1 (nI a)) ^^^ ((-1)))) ||| (ishlI 1 (nI j))) 999 = _ from f1)]
          refine ⟨u2, ?_, f2, okS_b hI.2 hle (by omega) (by omega)⟩
          obtain ⟨b1, b2⟩ := btr3_m (a := a) (b := j) hI.2 hle
          by_cases hq : nI (alone T c (swS (c 8) a j) 999) ≤ mS1 o
          · rw [if_pos hq, b1 hq]
          · rw [if_neg hq, b2 hq]; rfl
        · simp only [if_neg h3]
          exact ⟨u, rfl, hI⟩)
    r 0 (by omega) F (by omega) u o ⟨hu, ho⟩
  exact ⟨w2, e1, e2⟩
theorem v_X11_swap {F : Nat} (hF : 2000 ≤ F) {w : Wd} {T : Tw} {c : Bl} {r p N : Nat} (g : MG w T c r p N) (hc : okRp c r) : AskM (P_X11_swap F w) (qSwap T c r) w := by
  have hr := g.1.1
  unfold P_X11_swap qSwap
  rw [lt_v, swF_r hr g.2.2.2]
  obtain ⟨w2, e1, e2, e3⟩ := lpG (fun n w o i => L_X11_swap_15 F (fun w x6 x7 x8 => (if (0 : Int32) ≤ x7 then lt (sI w 88 1 0) (fun w39 => bnv (P_X11_enters F w39 (Int32.toInt64 x7)) (fun w40 => bnv (P_X11_enters F w40 (Int32.toInt64 x8)) (fun w41 => some (x6, w41)))) else some ((-2), w))) n w (mS1 o) (mS2 o) (mS3 o) i)
    (fun w o => (if (0 : Int32) ≤ mS2 o then lt (sI w 88 1 0) (fun w39 => bnv (P_X11_enters F w39 (Int32.toInt64 (mS2 o))) (fun w40 => bnv (P_X11_enters F w40 (Int32.toInt64 (mS3 o))) (fun w41 => some (mS1 o, w41)))) else some ((-2), w)))
    (swT T c r r) (fun u o _ => Fm QN w u ∧ okS o) r
    (fun n u o hI => by
      have e6 := (MG_QN g hI.1).2.1.1
      show L_X11_swap_15 F _ (n + 1) u _ _ _ _ = _
      rw [L_X11_swap_15, e6, if_pos (Int32.le_refl _)])
    (fun n u o j hj hI => by
      have e6 := (MG_QN g hI.1).2.1.1
      show ∃ w2, L_X11_swap_15 F _ (n + 1) u _ _ _ _ = L_X11_swap_15 F _ n w2 _ _ _ _ ∧ _
      obtain ⟨u2, f1, f2⟩ := l_X11_swap hF g hc j hj (fun w x15 x16 x17 => lt (nI j + 1 : Int32) (fun x36 => L_X11_swap_15 F (fun w x6 x7 x8 => (if (0 : Int32) ≤ x7 then lt (sI w 88 1 0) (fun w39 => bnv (P_X11_enters F w39 (Int32.toInt64 x7)) (fun w40 => bnv (P_X11_enters F w40 (Int32.toInt64 x8)) (fun w41 => some (x6, w41)))) else some ((-2), w))) n w x15 x16 x17 x36)) u hI.1 o hI.2
      rw [L_X11_swap_15, e6, if_neg (nI_ge hj (by omega)), f1, lt_v, nI_1]
      exact ⟨u2, rfl, f2⟩)
    r 0 (by omega) F (by omega) (sI w 88 0 0) none ⟨fm_t0, fun q hq => by cases hq⟩
  rw [show L_X11_swap_15 F _ F (sI w 88 0 0) (-2) (-1) (-1) 0 = _ from e1]
  generalize foldU (swT T c r r) r 0 none = o at *
  cases o with
  | none =>
    show AskM (if (0 : Int32) ≤ -1 then _ else _) (-2, none) w
    rw [if_neg (by decide)]
    exact am_n e2
  | some q =>
    have hq := e3 q rfl
    show AskM (if (0 : Int32) ≤ nI q.2.1 then lt (sI w2 88 1 0) (fun w39 => bnv (P_X11_enters F w39 (Int32.toInt64 (nI q.2.1))) (fun w40 => bnv (P_X11_enters F w40 (Int32.toInt64 (nI q.2.2))) (fun w41 => some (nI q.1, w41)))) else _) (nI q.1, some [i64 (nI q.2.1), i64 (nI q.2.2)]) w
    rw [if_pos (nI_pos' (by omega)), lt_v]
    exact am_2 _ _ (fun _ => Int32.toInt64 (nI q.2.2)) _ (fun _ _ => rfl) (fun w3 f1 f2 => am_t e2 f1 f2)
-- ready
/-- the first rest, from so many on, behind which it rings alone so long; how tired it is then -/
def rdF (T : Tw) (i n : Nat) : Nat → Bl → Sum (Int32 × Nat) Bl := fun _ b => if alone T b (bit1 i) n = n then .inl (b i, 0) else .inr (mi0 T b)
def rdX (T : Tw) (i n : Nat) (k : Nat) (b : Bl) : Sum (Nat × Int32) Bl := if alone T b (bit1 i) n = n then .inl (k, b i) else .inr (mi0 T b)
def qReady (T : Tw) (b : Bl) (r : Nat) (x y : Int32) : Ans := if x < 0 then (-1, none) else if nI r ≤ x then (-1, none) else qR y 1 60 (match foldX (rdX T x.toNatClampNeg y.toNatClampNeg) 121 0 (setR b (b 8 &&& (bit1 x.toNatClampNeg ^^^ (-1)))) with
  | .inl o => (nI o.1, some [i64 o.2])
  | .inr _ => (-2, none))
theorem bC27 {w w2 : Wd} (h1 : ∀ k, gI w2 27 k = gI w 27 k) (h2 : ∀ k, gI w2 28 k = gI w 28 k) : bC w2 27 = bC w 27 := bC_ext (fun k _ => h2 k) (fun k _ _ => h1 k)
theorem v_X10_ready {F : Nat} (hF : 2000 ≤ F) {w : Wd} (s : St w) {r : Nat} (hr : r ≤ 8) (er : gI w 6 2 = nI r) (x y : Int32) : AskC (P_X10_ready F w x y) (qReady (tC w 5) (bC w 23) r x y) w := by
  unfold P_X10_ready qReady
  rw [bnd_r (v_X5_hasx F w 6 x), er]
  have hn : AskC (some (-1, w)) (-1, none) w := ask_n (p := SP) Fr.rfl' (fun b h => SP_n h)
  by_cases h1 : x < 0
  · rw [if_pos h1, if_pos rfl, if_pos h1]; exact hn
  rw [if_neg h1, if_neg h1]
  by_cases h2 : nI r ≤ x
  · rw [if_pos h2, if_pos rfl, if_pos h2]; exact hn
  obtain ⟨i, hi, rfl⟩ : ∃ i, i < r ∧ x = nI i := by
    rcases pk_ix x (n := r) (by omega) with h | h | ⟨i, hi, e⟩
    · exact absurd h h1
    · exact absurd h h2
    · exact ⟨i, hi, e⟩
  rw [if_neg h2, if_neg h2, if_neg (n8gt (show i < 8 by omega)), if_neg (by decide)]
  refine askC_r (fun h1 h2 => ?_)
  obtain ⟨n, hn1, hn2, rfl⟩ := rng h1 h2 (A := 1) (B := 60)
  rw [nI_clamp (by omega), nI_clamp (by omega)]
  obtain ⟨w1, c1, c2, c3⟩ := v_X1_copy (F := F) (by omega) w 27 23 (by decide) (by decide) (by decide)
  rw [bnv_r c1, lt_v]
  have hSP27 : ∀ b, (b = 27 ∨ b = 27 + 1) → SP b := fun b hb => .inr (by omega)
  have f0 : Fr SP w (sI w1 27 1 (gI w1 27 1 &&& (ishlI 1 (nI i) ^^^ (-1)))) := (c2.imp hSP27).tr Fr.ofI (fun _ h => h) (fun b h => .inr (by omega))
  have b0 : bC (sI w1 27 1 (gI w1 27 1 &&& (ishlI 1 (nI i) ^^^ (-1)))) 27 = setR (bC w 23) (bC w 23 8 &&& (bit1 i ^^^ (-1))) := by
    rw [bC_rope, c3]
    have : gI w1 27 1 = bC w 23 8 := by rw [← c3]; rfl
    rw [this]
    rfl
  rcases lpX (fun m w (_ : Bl) k => L_X10_ready_57 F (nI i) (nI n) (fun w  => some ((-2), w)) m w k) (fun w _ => some ((-2), w)) (fun u (o : Nat × Int32) => bnd (P_X1_tiredOf F u 27 (nI i)) (fun x21 w20 => bnv (P_X10_tell F w20 (Int32.toInt64 x21)) (fun w22 => some (nI o.1, w22)))) (rdX (tC w 5) i n) (fun u b _ => Fr SP w u ∧ bC u 27 = b) (fun u o => Fr SP w u ∧ bC u 27 i = o.2) 121
    (fun m u b hI => by
      show L_X10_ready_57 F (nI i) (nI n) _ (m + 1) u _ = _
      rw [L_X10_ready_57, if_pos (show (120 : Int32) < nI 121 by decide)])
    (fun m u b k hk hI => by
      obtain ⟨hI1, rfl⟩ := hI
      show (∃ w2 t, _ ∧ L_X10_ready_57 F (nI i) (nI n) _ (m + 1) u _ = L_X10_ready_57 F (nI i) (nI n) _ m w2 _ ∧ _) ∨ (∃ w2 o, _ ∧ L_X10_ready_57 F (nI i) (nI n) _ (m + 1) u _ = _ ∧ _)
      rw [L_X10_ready_57, if_neg (show ¬ (120 : Int32) < nI k from nI_nlt (a := 120) (b := k) (by omega) (by decide))]
      obtain ⟨u1, d1, d2, d3⟩ := v_X1_copy (F := F) (by omega) u 25 27 (by decide) (by decide) (by decide)
      have hs1 : Sim w u1 (bC u 27) := ⟨hI1.tr d2 (fun _ h => h) (fun b hb => .inr (by omega)), d3⟩
      obtain ⟨u2, g1, g2, g3, g4⟩ := sim_rungOn hF 5 s.1 (sim_rope hs1 (ishlI 1 (nI i))) n (by omega)
      rw [bnv_r d1, lt_v, bnd_r g1]
      have k27 : ∀ k, gI u2 27 k = gI u 27 k := fun k => by rw [g3 k, gIa (by decide), (d2 27 (by omega)).1]
      have k28 : ∀ k, gI u2 28 k = gI u 28 k := fun k => by rw [g4 k, gIa (by decide), (d2 28 (by omega)).1]
      have e27 : bC u2 27 = bC u 27 := bC27 k27 k28
      have hle := alone_le (tC w 5) (bC u 27) (bit1 i) n
      show _ ∨ _
      unfold rdX
      by_cases ha : alone (tC w 5) (bC u 27) (bit1 i) n = n
      · right
        refine ⟨u2, (k, bC u 27 i), by rw [if_pos ha], ?_, g2.1, by rw [e27]⟩
        rw [if_pos (show nI (rgo (tC w 5) n (setR (bC u 27) (ishlI 1 (nI i)))).1 = nI n from congrArg nI ha)]
      · left
        obtain ⟨u3, q1, q2, q3⟩ := v_X9_ring (F := F) (by omega) u2 5 27 (okT_fr Kp_SP g2.1 s.1) (by decide)
        refine ⟨u3, mi0 (tC w 5) (bC u 27), by rw [if_neg ha], ?_, g2.1.tr q2 (fun _ h => h) (fun b h => by unfold SP; rcases h with h | h | h; exact .inl h; exact .inr (by omega); exact .inr (by omega)), ?_⟩
        · rw [if_neg (show ¬ nI (rgo (tC w 5) n (setR (bC u 27) (ishlI 1 (nI i)))).1 = nI n from fun e => ha ((nI_eq (by omega) (by omega)).mp e)), bnd_r q1, lt_v, nI_1]
        · rw [q3, tC_fr Kp_SP g2.1 s.1, e27])
    121 0 (by omega) F (by omega) _ _ ⟨f0, b0⟩ with ⟨w2, t, a1, a2, a3⟩ | ⟨w2, o, a1, a2, a3, a4⟩
  · rw [a1, show L_X10_ready_57 F (nI i) (nI n) _ F _ 0 = _ from a2]
    exact ask_n a3.1 (fun b h => SP_n h)
  · rw [a1, show L_X10_ready_57 F (nI i) (nI n) _ F _ 0 = _ from a2, bnd_r (v_X1_tiredOf F w2 27 i (by omega))]
    have : gI w2 (27 + 1) i = o.2 := by rw [← a4]; unfold bC; rw [if_pos (by omega)]
    rw [this]
    obtain ⟨w3, e1, e2, e3⟩ := v_X10_tell F w2 (Int32.toInt64 o.2)
    rw [bnv_r e1]
    exact ask_t (a3.imp (fun b h => SP_QP h)) e2 e3
theorem itM_s (T : Tw) : ∀ n b, itM T (n + 1) b = mi T (itM T n b) := by
  intro n
  induction n with
  | zero => intro b; rfl
  | succ n ih => intro b; show itM T (n + 1) (mi T b) = mi T (itM T n (mi T b)); exact ih _
theorem alone_15 {T : Tw} {b b2 : Bl} (h : eq15 b b2) (s : Int32) (n : Nat) : alone T b2 s n = alone T b s n := by
  unfold alone
  rw [← (rgM_o T n (setR b s) (setR b2 s) (set_15 h s)).1, (rgM_o T n (setR b2 s) (setR b2 s) (eq15_rfl _)).1]
theorem clr_N {r s a : Nat} (hr : r ≤ 8) (hs : s < 2 ^ r) (ha : a < r) : ∃ t : Nat, t < 2 ^ r ∧ nI s &&& (bit1 a ^^^ (-1)) = nI t := by
  have h : ∀ r, r < 9 → ∀ s, s < 2 ^ r → ∀ a, a < r → (nI s &&& (bit1 a ^^^ (-1))).toNatClampNeg < 2 ^ r ∧ nI s &&& (bit1 a ^^^ (-1)) = nI (nI s &&& (bit1 a ^^^ (-1))).toNatClampNeg := by decide +kernel
  obtain ⟨h1, h2⟩ := h r (by omega) s hs a ha
  exact ⟨_, h1, h2⟩
theorem bit1_N : ∀ i : Nat, i < 8 → bit1 i = nI (2 ^ i) := by decide +kernel
theorem v_X11_ready {F : Nat} (hF : 2000 ≤ F) {w : Wd} {T : Tw} {c : Bl} {r p N : Nat} (g : MG w T c r p N) (hc : okRp c r) (x y : Int32) : AskM (P_X11_ready F w x y) (qReady T c r x y) w := by
  have hr := g.1.1
  obtain ⟨s, hs, es⟩ := hc
  have g0 := MG_QN g fm_t0
  unfold P_X11_ready qReady
  rw [lt_v, bnd_r (v_X11_isRinger F _ x), g0.2.1.1]
  have hn : AskM (some (-1, sI w 88 0 0)) (-1, none) w := am_n fm_t0
  by_cases h1 : x < 0
  · rw [if_pos h1, if_pos rfl, if_pos h1]; exact hn
  rw [if_neg h1, if_neg h1]
  by_cases h2 : nI r ≤ x
  · have : nI r - 1 < x := by
      rw [Int32.le_iff_toInt_le] at h2
      rw [Int32.lt_iff_toInt_lt, show (1 : Int32) = nI 1 from rfl, pk_sub_toInt (by omega) (by omega)]
      rw [nI_toInt (by omega)] at h2
      omega
    rw [if_pos this, if_pos rfl, if_pos h2]; exact hn
  obtain ⟨i, hi, rfl⟩ : ∃ i, i < r ∧ x = nI i := by
    rcases pk_ix x (n := r) (by omega) with h | h | ⟨i, hi, e⟩
    · exact absurd h h1
    · exact absurd h h2
    · exact ⟨i, hi, e⟩
  rw [if_neg h2, if_neg (show ¬ nI r - 1 < nI i from by rw [show nI r - 1 = nI (r - 1) from pk_sub (a := r) (b := 1) (by omega)]; exact nI_nlt (by omega) (by omega)), if_neg (by decide), in_r F _ y 1 60]
  refine askM_r fm_t0 (fun h1 h2 => ?_)
  obtain ⟨n, hn1, hn2, rfl⟩ := rng h1 h2 (A := 1) (B := 60)
  rw [nI_clamp (by omega), nI_clamp (by omega)]
  obtain ⟨t, ht, et⟩ := clr_N hr hs hi
  have hz0 : zB (setR c (c 8 &&& (bit1 i ^^^ (-1)))) r := by rw [es, et]; exact zB_set hr g.2.2.2 ht
  have h2i : 2 ^ i < 2 ^ r := Nat.pow_lt_pow_right (by decide) hi
  rcases lpX (fun m w (_ : Bl) k => L_X11_ready_29 F (nI i) (nI n) (fun w  => some ((-2), w)) m w k) (fun w _ => some ((-2), w)) (fun u (o : Nat × Int32) => lt (sI u 88 1 0) (fun w26 => bnv (P_X11_enters F w26 (Int32.toInt64 o.2)) (fun w27 => some (nI o.1, w27)))) (rdX T i n) (fun u b k => Fm QN w u ∧ eq15 b (itM T k (setR c (c 8 &&& (bit1 i ^^^ (-1))))) ∧ zB b r) (fun u o => Fm QN w u) 121
    (fun m u b hI => by
      show L_X11_ready_29 F (nI i) (nI n) _ (m + 1) u _ = _
      rw [L_X11_ready_29, if_pos (show (120 : Int32) < nI 121 by decide)])
    (fun m u b k hk hI => by
      obtain ⟨hI1, hI2, hI3⟩ := hI
      show (∃ w2 t, _ ∧ L_X11_ready_29 F (nI i) (nI n) _ (m + 1) u _ = L_X11_ready_29 F (nI i) (nI n) _ m w2 _ ∧ _) ∨ (∃ w2 o, _ ∧ L_X11_ready_29 F (nI i) (nI n) _ (m + 1) u _ = _ ∧ _)
      rw [L_X11_ready_29, if_neg (show ¬ (120 : Int32) < nI k from nI_nlt (a := 120) (b := k) (by omega) (by decide))]
      obtain ⟨u1, d1, d2⟩ := ms_puts (F := F) (by omega) hI1
      rw [g.2.2.1] at d2
      have e8 : gI u1 96 8 = c 8 := by rw [← rM_k (w := u1) (a := 96) (show 8 < 16 by decide), d2.2]
      have d3 := ms_rope d2 (c 8 &&& (bit1 i ^^^ (-1)))
      obtain ⟨u2, q1, q2, q3, q4⟩ := ms_goesOn hF g.1 (a := 96) (.inr (.inl rfl)) (MG_QN g d3.1).2.1 (by rw [d3.2]; exact hz0) k (by omega)
      rw [d3.2] at q3 q4
      have d4 : MS w u2 (itM T k (setR c (c 8 &&& (bit1 i ^^^ (-1))))) := ⟨d3.1.tr (q2.imp (fun _ _ h => Mn_QN h)), q3⟩
      have d5 := ms_rope d4 (bit1 i)
      obtain ⟨u3, f1, f2⟩ := ms_rungFor hF g d5 (by have := zB_set hr q4 h2i; rwa [← bit1_N i (by omega)] at this) n (by omega)
      simp only [gd1, GL]
      rw [bnv_r d1, lt_v, e8, bnd_r (show P_X11_goesOn F (sI u1 96 8 (c 8 &&& (ishlI 1 (nI i) ^^^ (-1)))) 96 (nI k) = _ from q1), lt_v, gd_t (inB_n (show i < 16 by omega) (by omega)), lt_v, nI_clamp (by omega), bnd_r (show P_X11_rungFor F (sI u2 96 8 (ishlI 1 (nI i))) (nI n) = _ from f1)]
      have hti : gI (sI u2 96 8 (ishlI 1 (nI i))) 96 i = b i := by rw [gIk (by omega), ← hI2 i (by omega), ← q3, rM_k (by omega)]
      rw [hti, show (rgo T n (setR (itM T k (setR c (c 8 &&& (bit1 i ^^^ (-1))))) (bit1 i))).1 = alone T b (bit1 i) n from alone_15 hI2 (bit1 i) n]
      have hle := alone_le T b (bit1 i) n
      unfold rdX
      by_cases ha : alone T b (bit1 i) n = n
      · right
        exact ⟨u3, (k, b i), by rw [if_pos ha], by rw [if_pos (congrArg nI ha)], f2.1⟩
      · left
        refine ⟨u3, mi0 T b, by rw [if_neg ha], ?_, f2.1, ?_, zB_mi0 hI3⟩
        · rw [if_neg (fun e => ha ((nI_eq (by omega) (by omega)).mp e)), lt_v, nI_1]
        · rw [itM_s]; exact mi_15 hI2)
    121 0 (by omega) F (by omega) (sI w 88 0 0) _ ⟨fm_t0, eq15_rfl _, hz0⟩ with ⟨w2, t, a1, a2, a3⟩ | ⟨w2, o, a1, a2, a3⟩
  · rw [a1, show L_X11_ready_29 F (nI i) (nI n) _ F _ 0 = _ from a2]
    exact am_n a3.1
  · rw [a1, show L_X11_ready_29 F (nI i) (nI n) _ F _ 0 = _ from a2, lt_v]
    exact am_1 a3 _ _ (fun w2 f1 f2 => am_t a3 f1 f2)
