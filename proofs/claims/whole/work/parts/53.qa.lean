-- ===== loops, once and for all =====
def foldU {σ : Type} (f : Nat → σ → σ) : Nat → Nat → σ → σ
  | 0, _, s => s
  | m + 1, j, s => foldU f m (j + 1) (f j s)
theorem lpG {σ R : Type} (L : Nat → Wd → σ → Int32 → Option R) (kk : Wd → σ → Option R) (f : Nat → σ → σ) (I : Wd → σ → Nat → Prop) (M : Nat)
    (h0 : ∀ n w s, I w s M → L (n + 1) w s (nI M) = kk w s)
    (h1 : ∀ n w s j, j < M → I w s j → ∃ w2, L (n + 1) w s (nI j) = L n w2 (f j s) (nI (j + 1)) ∧ I w2 (f j s) (j + 1)) :
    ∀ m j, j + m = M → ∀ n, m < n → ∀ w s, I w s j → ∃ w2, L n w s (nI j) = kk w2 (foldU f m j s) ∧ I w2 (foldU f m j s) M := by
  intro m
  induction m with
  | zero =>
    intro j hj n hn w s hI
    obtain ⟨n, rfl⟩ : ∃ q, n = q + 1 := ⟨n - 1, by omega⟩
    obtain rfl : j = M := by omega
    exact ⟨w, h0 n w s hI, hI⟩
  | succ m ih =>
    intro j hj n hn w s hI
    obtain ⟨n, rfl⟩ : ∃ q, n = q + 1 := ⟨n - 1, by omega⟩
    obtain ⟨w2, e1, e2⟩ := h1 n w s j (by omega) hI
    obtain ⟨w3, f1, f2⟩ := ih (j + 1) (by omega) n (by omega) w2 _ e2
    exact ⟨w3, e1.trans f1, f2⟩
/-- the same with a way out -/
def foldX {σ ρ : Type} (f : Nat → σ → Sum ρ σ) : Nat → Nat → σ → Sum ρ σ
  | 0, _, s => .inr s
  | m + 1, j, s => match f j s with
    | .inl o => .inl o
    | .inr t => foldX f m (j + 1) t
theorem lpX {σ ρ R : Type} (L : Nat → Wd → σ → Int32 → Option R) (kk : Wd → σ → Option R) (ex : Wd → ρ → Option R) (f : Nat → σ → Sum ρ σ) (I : Wd → σ → Nat → Prop) (J : Wd → ρ → Prop) (M : Nat)
    (h0 : ∀ n w s, I w s M → L (n + 1) w s (nI M) = kk w s)
    (h1 : ∀ n w s j, j < M → I w s j → (∃ w2 t, f j s = .inr t ∧ L (n + 1) w s (nI j) = L n w2 t (nI (j + 1)) ∧ I w2 t (j + 1)) ∨ (∃ w2 o, f j s = .inl o ∧ L (n + 1) w s (nI j) = ex w2 o ∧ J w2 o)) :
    ∀ m j, j + m = M → ∀ n, m < n → ∀ w s, I w s j → (∃ w2 t, foldX f m j s = .inr t ∧ L n w s (nI j) = kk w2 t ∧ I w2 t M) ∨ (∃ w2 o, foldX f m j s = .inl o ∧ L n w s (nI j) = ex w2 o ∧ J w2 o) := by
  intro m
  induction m with
  | zero =>
    intro j hj n hn w s hI
    obtain ⟨n, rfl⟩ : ∃ q, n = q + 1 := ⟨n - 1, by omega⟩
    obtain rfl : j = M := by omega
    exact .inl ⟨w, s, rfl, h0 n w s hI, hI⟩
  | succ m ih =>
    intro j hj n hn w s hI
    obtain ⟨n, rfl⟩ : ∃ q, n = q + 1 := ⟨n - 1, by omega⟩
    rcases h1 n w s j (by omega) hI with ⟨w2, t, e0, e1, e2⟩ | ⟨w2, o, e0, e1, e2⟩
    · have e : foldX f (m + 1) j s = foldX f m (j + 1) t := by rw [foldX]; simp only [e0]
      rw [e, e1]
      exact ih (j + 1) (by omega) n (by omega) w2 t e2
    · have e : foldX f (m + 1) j s = .inl o := by rw [foldX]; simp only [e0]
      rw [e]
      exact .inr ⟨w2, o, rfl, e1, e2⟩
theorem foldU_rel {σ τ : Type} (R : Nat → σ → τ → Prop) (f : Nat → σ → σ) (g : Nat → τ → τ) (M : Nat) (h : ∀ j s t, j < M → R j s t → R (j + 1) (f j s) (g j t)) : ∀ m j s t, j + m = M → R j s t → R M (foldU f m j s) (foldU g m j t) := by
  intro m
  induction m with
  | zero => intro j s t hj r; obtain rfl : j = M := by omega
            exact r
  | succ m ih => intro j s t hj r; exact ih (j + 1) _ _ (by omega) (h j s t (by omega) r)
theorem foldU_split {σ : Type} (f : Nat → σ → σ) : ∀ m j k s, foldU f (m + k) j s = foldU f k (j + m) (foldU f m j s) := by
  intro m
  induction m with
  | zero => intro j k s; rw [Nat.zero_add]; rfl
  | succ m ih =>
    intro j k s
    rw [show m + 1 + k = (m + k) + 1 from by omega]
    show foldU f (m + k) (j + 1) (f j s) = foldU f k (j + (m + 1)) (foldU f m (j + 1) (f j s))
    rw [ih, show j + 1 + m = j + (m + 1) from by omega]
theorem foldU_id {σ : Type} (f : Nat → σ → σ) : ∀ m j s, (∀ i s, j ≤ i → i < j + m → f i s = s) → foldU f m j s = s := by
  intro m
  induction m with
  | zero => intro j s _; rfl
  | succ m ih =>
    intro j s h
    show foldU f m (j + 1) (f j s) = s
    rw [h j s (Nat.le_refl _) (by omega)]
    exact ih (j + 1) s (fun i s h1 h2 => h i s (by omega) (by omega))
theorem foldU_congr {σ : Type} (f g : Nat → σ → σ) : ∀ m j s, (∀ i s, j ≤ i → i < j + m → f i s = g i s) → foldU f m j s = foldU g m j s := by
  intro m
  induction m with
  | zero => intro j s _; rfl
  | succ m ih =>
    intro j s h
    show foldU f m (j + 1) (f j s) = foldU g m (j + 1) (g j s)
    rw [h j s (Nat.le_refl _) (by omega)]
    exact ih (j + 1) _ (fun i s h1 h2 => h i s (by omega) (by omega))
/-- the model's test of a range, as the class has it -/
theorem in_r {β : Type _} (F : Nat) (w : Wd) (x a b : Int32) {A B : Int64} (Z Y : Wd → Option β) (hA : A = Int32.toInt64 a := by rfl) (hB : B = Int32.toInt64 b := by rfl) : bnd (P_X11_in F w (Int32.toInt64 x) A B) (fun x4 w3 => if x4 = 0 then Z w3 else Y w3) = if x < a then Z w else if x ≤ b then Y w else Z w := by
  rw [bnd_r (v_X11_in F w x a b hA hB)]
  by_cases h1 : x < a
  · rw [if_pos h1, if_pos rfl, if_pos h1]
  · rw [if_neg h1, if_neg h1]
    by_cases h2 : b < x
    · rw [if_pos h2, if_pos rfl, if_neg (Int32.not_le.mpr h2)]
    · rw [if_neg h2, if_neg (by decide), if_pos (Int32.not_lt.mp h2)]
theorem askC_if {c : Prop} [Decidable c] {o1 o2 : Option (Int32 × Wd)} {q1 q2 : Ans} {w : Wd} (h1 : c → AskC o1 q1 w) (h2 : ¬ c → AskC o2 q2 w) : AskC (if c then o1 else o2) (if c then q1 else q2) w := by
  by_cases h : c
  · rw [if_pos h, if_pos h]; exact h1 h
  · rw [if_neg h, if_neg h]; exact h2 h
theorem askM_if {c : Prop} [Decidable c] {o1 o2 : Option (Int32 × Wd)} {q1 q2 : Ans} {w : Wd} (h1 : c → AskM o1 q1 w) (h2 : ¬ c → AskM o2 q2 w) : AskM (if c then o1 else o2) (if c then q1 else q2) w := by
  by_cases h : c
  · rw [if_pos h, if_pos h]; exact h1 h
  · rw [if_neg h, if_neg h]; exact h2 h
/-- a question within a range -/
def qR (x a b : Int32) (q : Ans) : Ans := if x < a then (-1, none) else if x ≤ b then q else (-1, none)
theorem askC_r {x a b : Int32} {o : Option (Int32 × Wd)} {q : Ans} {w : Wd} (h : ¬ x < a → x ≤ b → AskC o q w) : AskC (if x < a then some (-1, w) else if x ≤ b then o else some (-1, w)) (qR x a b q) w :=
  askC_if (fun _ => ask_n (p := SP) Fr.rfl' (fun b h => SP_n h)) (fun h1 => askC_if (fun h2 => h h1 h2) (fun _ => ask_n (p := SP) Fr.rfl' (fun b h => SP_n h)))
theorem askM_r {x a b : Int32} {o : Option (Int32 × Wd)} {q : Ans} {w w1 : Wd} (h0 : Fm QN w w1) (h : ¬ x < a → x ≤ b → AskM o q w) : AskM (if x < a then some (-1, w1) else if x ≤ b then o else some (-1, w1)) (qR x a b q) w :=
  askM_if (fun _ => am_n h0) (fun h1 => askM_if (fun h2 => h h1 h2) (fun _ => am_n h0))
theorem rng {x a b : Int32} {A B : Nat} (h1 : ¬ x < a) (h2 : x ≤ b) (ea : a = nI A := by rfl) (eb : b = nI B := by rfl) (hA : A < 2 ^ 31 := by decide) (hB : B < 2 ^ 31 := by decide) : ∃ n, A ≤ n ∧ n ≤ B ∧ x = nI n := by
  subst ea
  subst eb
  obtain ⟨n, hn, rfl⟩ := nI_of2 (M := nI B) (n := B) (nI_toInt hB) (x := x) (by
    intro q
    apply h1
    rw [Int32.lt_iff_toInt_lt] at q ⊢
    rw [nI_toInt hA]
    have e2 : (0 : Int32).toInt = 0 := by decide
    omega) h2
  refine ⟨n, ?_, hn, rfl⟩
  by_cases hx : A ≤ n
  · exact hx
  · exact absurd (nI_lt (a := n) (b := A) (by omega) hA) h1
-- ===== strongest =====
abbrev Ot : Type := Option (Nat × Nat)
def cLo (o : Ot) : Int32 := match o with | none => -1 | some q => nI q.1
def cBo (o : Ot) : Int32 := match o with | none => 0 | some q => nI q.2
def mLo (o : Ot) : Int32 := match o with | none => -2 | some q => nI q.1
def mBo (o : Ot) : Int32 := match o with | none => -1 | some q => nI q.2
def okO (o : Ot) : Prop := ∀ q, o = some q → q.1 ≤ 999 ∧ q.2 < 256
/-- the better of what is held and a new one -/
def btr (o : Ot) (l s : Nat) : Ot := match o with
  | none => some (l, s)
  | some q => if q.1 < l then some (l, s) else some q
theorem okO_b {o : Ot} {l s : Nat} (h : okO o) (hl : l ≤ 999) (hs : s < 256) : okO (btr o l s) := by
  intro q hq
  cases o with
  | none => cases hq; exact ⟨hl, hs⟩
  | some q0 =>
    unfold btr at hq
    simp only at hq
    split at hq
    · cases hq; exact ⟨hl, hs⟩
    · cases hq; exact h _ rfl
theorem btr_c {o : Ot} {l s : Nat} (h : okO o) (hl : l ≤ 999) : (nI l ≤ cLo o → btr o l s = o) ∧ (¬ nI l ≤ cLo o → cLo (btr o l s) = nI l ∧ cBo (btr o l s) = nI s) := by
  cases o with
  | none =>
    refine ⟨fun q => absurd (Int32.le_trans (nI_pos' (n := l) (by omega)) q) (by decide), fun _ => ⟨rfl, rfl⟩⟩
  | some q0 =>
    have h0 := (h q0 rfl).1
    unfold btr
    simp only
    refine ⟨fun q => ?_, fun q => ?_⟩
    · rw [if_neg]
      have := (nI_leI (a := l) (b := q0.1) (by omega) (by omega)).mp q
      omega
    · rw [if_pos]
      · exact ⟨rfl, rfl⟩
      · have : ¬ l ≤ q0.1 := fun q2 => q ((nI_leI (a := l) (b := q0.1) (by omega) (by omega)).mpr q2)
        omega
theorem btr_m {o : Ot} {l s : Nat} (h : okO o) (hl : l ≤ 999) : (nI l ≤ mLo o → btr o l s = o) ∧ (¬ nI l ≤ mLo o → mLo (btr o l s) = nI l ∧ mBo (btr o l s) = nI s) := by
  cases o with
  | none =>
    refine ⟨fun q => absurd (Int32.le_trans (nI_pos' (n := l) (by omega)) q) (by decide), fun _ => ⟨rfl, rfl⟩⟩
  | some q0 =>
    have h0 := (h q0 rfl).1
    unfold btr
    simp only
    refine ⟨fun q => ?_, fun q => ?_⟩
    · rw [if_neg]
      have := (nI_leI (a := l) (b := q0.1) (by omega) (by omega)).mp q
      omega
    · rw [if_pos]
      · exact ⟨rfl, rfl⟩
      · have : ¬ l ≤ q0.1 := fun q2 => q ((nI_leI (a := l) (b := q0.1) (by omega) (by omega)).mpr q2)
        omega
theorem maxI_l {x y : Int32} (h : y ≤ x) : maxI x y = x := if_neg (Int32.not_lt.mpr h)
theorem maxI_r {x y : Int32} (h : ¬ y ≤ x) : maxI x y = y := if_pos (Int32.not_le.mp h)
def stp (T : Tw) (b : Bl) (many : Int32) (j : Nat) (o : Ot) : Ot := if bc (nI j) = many then btr o (alone T b (nI j) 999) j else o
def qStrong (T : Tw) (b : Bl) (r : Nat) (x : Int32) : Ans := qR x 1 3 (match foldU (stp T b x) (2 ^ r - 1) 1 none with
  | none => (-2, none)
  | some q => (nI q.1, some [i64 (nI q.2)]))
theorem alone_le (T : Tw) (b : Bl) (s : Int32) (n : Nat) : alone T b s n ≤ n := rgo_le _ _ _
theorem cLo_neg {o : Ot} (h : okO o) : (-1 : Int32) ≤ cLo o := by
  cases o with
  | none => exact Int32.le_refl _
  | some q =>
    have := h q rfl
    exact Int32.le_trans (by decide) (nI_pos' (n := q.1) (by omega))
theorem mLo_neg {o : Ot} (h : okO o) : (-2 : Int32) ≤ mLo o := by
  cases o with
  | none => exact Int32.le_refl _
  | some q =>
    have := h q rfl
    exact Int32.le_trans (by decide) (nI_pos' (n := q.1) (by omega))
theorem v_X10_strongest {F : Nat} (hF : 2000 ≤ F) {w : Wd} (s : St w) {r : Nat} (hr : r ≤ 8) (er : gI w 6 2 = nI r) (x : Int32) : AskC (P_X10_strongest F w x) (qStrong (tC w 5) (bC w 23) r x) w := by
  have hp := pow8 hr
  unfold P_X10_strongest qStrong
  refine askC_r (fun h1 h2 => ?_)
  obtain ⟨w2, e1, e2, e3⟩ := lpG (fun n w o i => L_X10_strongest_19 F x (fun w x7 x8 => (if (0 : Int32) ≤ x7 then bnv (P_X10_tell F w (Int32.toInt64 x8)) (fun w27 => some (x7, w27)) else some ((-2), w))) n w (cLo o) (cBo o) i)
    (fun w o => (if (0 : Int32) ≤ cLo o then bnv (P_X10_tell F w (Int32.toInt64 (cBo o))) (fun w27 => some (cLo o, w27)) else some ((-2), w)))
    (stp (tC w 5) (bC w 23) x) (fun u o _ => Fr SP w u ∧ okO o) (2 ^ r)
    (fun n u o hI => by
      have e6 : gI u 6 2 = nI r := by rw [(hI.1 6 (by unfold SP Scr; omega)).1]; exact er
      show L_X10_strongest_19 F x _ (n + 1) u _ _ _ = _
      rw [L_X10_strongest_19, bnd_r (v_X5_all F u 6 r hr e6), if_pos (nI_lt (by omega) (by omega))])
    (fun n u o j hj hI => by
      have e6 : gI u 6 2 = nI r := by rw [(hI.1 6 (by unfold SP Scr; omega)).1]; exact er
      show ∃ w2, L_X10_strongest_19 F x _ (n + 1) u _ _ _ = L_X10_strongest_19 F x _ n w2 _ _ _ ∧ _
      rw [L_X10_strongest_19, bnd_r (v_X5_all F u 6 r hr e6), if_neg (nI_nlt (by omega) (by omega)), bnd_r (v_bc F u _)]
      unfold stp
      by_cases hb : bc (nI j) = x
      · obtain ⟨u2, f1, f2⟩ := v_X10_ringsAlone hF s.1 hI.1 (nI j) 999 (by omega)
        have hle := alone_le (tC w 5) (bC w 23) (nI j) 999
        rw [if_pos hb, bnd_r (show P_X10_ringsAlone F u (nI j) 999 = _ from f1)]
        simp only [if_pos hb]
        refine ⟨u2, ?_, f2, okO_b hI.2 hle (by omega)⟩
        unfold K_X10_strongest_56 K_X10_strongest_70
        rw [lt_v, nI_1]
        obtain ⟨b1, b2⟩ := btr_c (s := j) hI.2 hle
        by_cases hq : nI (alone (tC w 5) (bC w 23) (nI j) 999) ≤ cLo o
        · rw [if_pos hq, b1 hq]
        · rw [if_neg hq, (b2 hq).1, (b2 hq).2]; rfl
      · rw [if_neg hb]
        simp only [if_neg hb]
        refine ⟨u, ?_, hI⟩
        unfold K_X10_strongest_56 K_X10_strongest_70
        rw [lt_v, nI_1, if_pos (cLo_neg hI.2)])
    (2 ^ r - 1) 1 (by omega) F (by omega) w none ⟨Fr.rfl', fun q hq => by cases hq⟩
  rw [show L_X10_strongest_19 F x (fun w x7 x8 => (if (0 : Int32) ≤ x7 then bnv (P_X10_tell F w (Int32.toInt64 x8)) (fun w27 => some (x7, w27)) else some ((-2), w))) F w ((-1)) 0 1 = _ from e1]
  generalize foldU (stp (tC w 5) (bC w 23) x) (2 ^ r - 1) 1 none = o at *
  cases o with
  | none =>
    show AskC (if (0 : Int32) ≤ -1 then _ else _) (-2, none) w
    rw [if_neg (by decide)]
    exact ask_n e2 (fun b h => SP_n h)
  | some q =>
    have hq := e3 q rfl
    show AskC (if (0 : Int32) ≤ nI q.1 then bnv (P_X10_tell F w2 (Int32.toInt64 (nI q.2))) _ else _) (nI q.1, some [i64 (nI q.2)]) w
    obtain ⟨w3, f1, f2, f3⟩ := v_X10_tell F w2 (Int32.toInt64 (nI q.2))
    rw [if_pos (nI_pos' (by omega)), bnv_r f1]
    exact ask_t (e2.imp (fun b h => SP_QP h)) f2 f3
theorem shl_pow : ∀ r : Nat, r ≤ 8 → ishlI 1 (nI r) = nI (2 ^ r) := by decide +kernel
theorem v_X11_strongest {F : Nat} (hF : 2000 ≤ F) {w : Wd} {T : Tw} {b : Bl} {r p N : Nat} (g : MG w T b r p N) (x : Int32) : AskM (P_X11_strongest F w x) (qStrong T b r x) w := by
  have hr := g.1.1
  have hp := pow8 hr
  unfold P_X11_strongest qStrong
  rw [lt_v, in_r F _ x 1 3]
  refine askM_r fm_t0 (fun h1 h2 => ?_)
  obtain ⟨w2, e1, e2, e3⟩ := lpG (fun n w o i => L_X11_strongest_27 F x (fun w x9 x10 => (if (0 : Int32) ≤ x9 then lt (sI w 88 1 0) (fun w27 => bnv (P_X11_enters F w27 (Int32.toInt64 x9)) (fun w28 => some (x10, w28))) else some ((-2), w))) n w (mBo o) (mLo o) i)
    (fun w o => (if (0 : Int32) ≤ mBo o then lt (sI w 88 1 0) (fun w27 => bnv (P_X11_enters F w27 (Int32.toInt64 (mBo o))) (fun w28 => some (mLo o, w28))) else some ((-2), w)))
    (stp T b x) (fun u o _ => Fm QN w u ∧ okO o) (2 ^ r)
    (fun n u o hI => by
      have e6 := (MG_QN g hI.1).2.1.1
      show L_X11_strongest_27 F x _ (n + 1) u _ _ _ = _
      rw [L_X11_strongest_27, e6, shl_pow r hr, if_pos (Int32.le_refl _)])
    (fun n u o j hj hI => by
      have e6 := (MG_QN g hI.1).2.1.1
      show ∃ w2, L_X11_strongest_27 F x _ (n + 1) u _ _ _ = L_X11_strongest_27 F x _ n w2 _ _ _ ∧ _
      rw [L_X11_strongest_27, e6, shl_pow r hr, if_neg (nI_ge (by omega) (by omega)), bnd_r (v_bc F u _)]
      unfold stp
      by_cases hb : bc (nI j) = x
      · obtain ⟨u2, f1, f2⟩ := ms_rungBy hF g hI.1 j hj 999 (by omega)
        have hle := alone_le T b (nI j) 999
        rw [if_pos hb, bnd_r (show P_X11_rungBy F u (nI j) 999 = _ from f1)]
        simp only [if_pos hb]
        refine ⟨u2, ?_, f2, okO_b hI.2 hle (by omega)⟩
        unfold K_X11_strongest_61
        rw [lt_v, lt_v, lt_v, nI_1]
        obtain ⟨b1, b2⟩ := btr_m (s := j) hI.2 hle
        by_cases hq : nI (alone T b (nI j) 999) ≤ mLo o
        · rw [if_pos hq, b1 hq, maxI_l hq]
        · rw [if_neg hq, (b2 hq).1, (b2 hq).2, maxI_r hq]
      · rw [if_neg hb]
        simp only [if_neg hb]
        refine ⟨u, ?_, hI⟩
        unfold K_X11_strongest_61
        rw [lt_v, lt_v, lt_v, nI_1, if_pos (mLo_neg hI.2), maxI_l (mLo_neg hI.2)])
    (2 ^ r - 1) 1 (by omega) F (by omega) (sI w 88 0 0) none ⟨fm_t0, fun q hq => by cases hq⟩
  rw [show L_X11_strongest_27 F x (fun w x9 x10 => (if (0 : Int32) ≤ x9 then lt (sI w 88 1 0) (fun w27 => bnv (P_X11_enters F w27 (Int32.toInt64 x9)) (fun w28 => some (x10, w28))) else some ((-2), w))) F (sI w 88 0 0) ((-1)) ((-2)) 1 = _ from e1]
  generalize foldU (stp T b x) (2 ^ r - 1) 1 none = o at *
  cases o with
  | none =>
    show AskM (if (0 : Int32) ≤ -1 then _ else _) (-2, none) w
    rw [if_neg (by decide)]
    exact am_n e2
  | some q =>
    have hq := e3 q rfl
    show AskM (if (0 : Int32) ≤ nI q.2 then lt (sI w2 88 1 0) (fun w27 => bnv (P_X11_enters F w27 (Int32.toInt64 (nI q.2))) (fun w28 => some (nI q.1, w28))) else _) (nI q.1, some [i64 (nI q.2)]) w
    rw [if_pos (nI_pos' (by omega)), lt_v]
    exact am_1 e2 _ _ (fun w3 f1 f2 => am_t e2 f1 f2)
