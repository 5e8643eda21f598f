-- ===== strike =====
def outP (v own oth : Int32) : Int32 := if own ≤ oth then (if oth ≤ own then v / 2 - own else -own) else v - oth
theorem v_X10_outcome (F : Nat) (w : Wd) (v a b : Int32) : P_X10_outcome F w v a b = some (outP v a b, w) := by
  unfold P_X10_outcome outP
  split
  · split <;> rfl
  · rfl
theorem v_X11_wins (F : Nat) (w : Wd) (a b v : Int32) : P_X11_wins F w a b v = some (outP v a b, w) := by
  unfold P_X11_wins outP
  by_cases h : a ≤ b
  · rw [if_pos h, if_pos h]
    by_cases h2 : a = b
    · rw [if_pos h2, if_pos (by rw [h2]; exact Int32.le_refl _)]
    · rw [if_neg h2, if_neg (fun q => h2 (by
        rw [Int32.le_iff_toInt_le] at h q
        exact i32_ext (by omega)))]
  · rw [if_neg h, if_neg h]
def brX (v own oth : Int32) (m : Nat) (_ : Unit) : Sum Unit Unit := if outP v (nI m) oth ≤ outP v own oth then .inr () else .inl ()
/-- whether it is a best reply -/
def brP (v own oth : Int32) : Int32 := match foldX (brX v own oth) 10 0 () with
  | .inl _ => 0
  | .inr _ => 1
theorem v_X10_bestReply {F : Nat} (hF : 100 ≤ F) (w : Wd) (v a b : Int32) : P_X10_bestReply F w v a b = some (brP v a b, w) := by
  unfold P_X10_bestReply brP
  rcases lpX (fun m w (_ : Unit) k => L_X10_bestReply_2 F v a b (fun w  => some (1, w)) m w k) (fun w _ => some (1, w)) (fun u _ => some (0, u)) (brX v a b) (fun u _ _ => u = w) (fun u _ => u = w) 10
    (fun m u s hI => by
      show L_X10_bestReply_2 F v a b _ (m + 1) u _ = _
      rw [L_X10_bestReply_2, if_pos (show (9 : Int32) < nI 10 by decide)])
    (fun m u s k hk hI => by
      show (∃ w2 t, _ ∧ L_X10_bestReply_2 F v a b _ (m + 1) u _ = L_X10_bestReply_2 F v a b _ m w2 _ ∧ _) ∨ (∃ w2 o, _ ∧ L_X10_bestReply_2 F v a b _ (m + 1) u _ = _ ∧ _)
      rw [L_X10_bestReply_2, if_neg (show ¬ (9 : Int32) < nI k from nI_nlt (a := 9) (b := k) (by omega) (by decide)), bnd_r (v_X10_outcome F u _ _ _), bnd_r (v_X10_outcome F u _ _ _)]
      unfold brX
      by_cases c : outP v (nI k) b ≤ outP v a b
      · rw [if_pos c, if_pos c, lt_v, nI_1]
        exact .inl ⟨u, (), rfl, rfl, hI⟩
      · rw [if_neg c, if_neg c]
        exact .inr ⟨u, (), rfl, rfl, hI⟩)
    10 0 (by omega) F (by omega) w () rfl with ⟨w2, t, e1, e2, e3⟩ | ⟨w2, o, e1, e2, e3⟩
  · rw [e1, show L_X10_bestReply_2 F v a b _ F w 0 = _ from e2, e3]
  · rw [e1, show L_X10_bestReply_2 F v a b _ F w 0 = _ from e2, e3]
theorem v_X11_isRest {F : Nat} (hF : 100 ≤ F) (w : Wd) (a b v : Int32) : P_X11_isRest F w a b v = some (brP v a b, w) := by
  unfold P_X11_isRest brP
  have key : ∀ m j, j + m = 10 → ∀ n, m < n → L_X11_isRest_5 F a b v (fun w x6 => gd (isZO x6) (some (x6, w))) n w 0 (nI j) = some (0, w) ∧ L_X11_isRest_5 F a b v (fun w x6 => gd (isZO x6) (some (x6, w))) n w 1 (nI j) = some (match foldX (brX v a b) m j () with | .inl _ => 0 | .inr _ => 1, w) := by
    intro m
    induction m with
    | zero =>
      intro j hj n hn
      obtain ⟨n, rfl⟩ : ∃ q, n = q + 1 := ⟨n - 1, by omega⟩
      have h9 : (9 : Int32) < nI j := nI_lt (a := 9) (b := j) (by omega) (by omega)
      rw [L_X11_isRest_5, L_X11_isRest_5, if_pos h9, if_pos h9]
      exact ⟨rfl, rfl⟩
    | succ m ih =>
      intro j hj n hn
      obtain ⟨n, rfl⟩ : ∃ q, n = q + 1 := ⟨n - 1, by omega⟩
      obtain ⟨i1, i2⟩ := ih (j + 1) (by omega) n (by omega)
      have h9 : ¬ (9 : Int32) < nI j := nI_nlt (a := 9) (b := j) (by omega) (by decide)
      refine ⟨?_, ?_⟩
      · rw [L_X11_isRest_5, if_neg h9, if_pos rfl]
        unfold K_X11_isRest_36 K_X11_isRest_37
        rw [lt_v, nI_1]
        exact i1
      · rw [L_X11_isRest_5, if_neg h9, if_neg (show ¬ (1 : Int32) = 0 by decide), bnd_r (v_X11_wins F w _ _ _), bnd_r (v_X11_wins F w _ _ _), lt_v, lt_v, nI_1]
        by_cases c : outP v (nI j) b ≤ outP v a b
        · have e : foldX (brX v a b) (m + 1) j () = foldX (brX v a b) m (j + 1) () := by rw [foldX]; unfold brX; simp only [if_pos c]
          rw [if_neg (Int32.not_lt.mpr c), e]
          exact i2
        · have e : foldX (brX v a b) (m + 1) j () = .inl () := by rw [foldX]; unfold brX; simp only [if_neg c]
          rw [if_pos (Int32.not_le.mp c), e]
          exact i1
  exact (key 10 0 rfl F (by omega)).2
theorem br01 (v a b : Int32) : brP v a b = 0 ∨ brP v a b = 1 := by
  unfold brP
  split
  · exact .inl rfl
  · exact .inr rfl
abbrev Sk : Type := Option (Nat × Nat × Nat)
def skN (o : Sk) : Nat := match o with | none => 0 | some q => q.1
def skL (o : Sk) : List Int64 := match o with | none => [] | some q => [i64 (nI q.2.1), i64 (nI q.2.2)]
def skp (v : Int32) (x y : Nat) (o : Sk) : Sk := if brP v (nI x) (nI y) = 0 then o else if brP v (nI y) (nI x) = 0 then o else match o with
  | none => some (1, x, y)
  | some q => some (q.1 + 1, q.2.1, q.2.2)
def skT (v : Int32) (x : Nat) (o : Sk) : Sk := foldU (skp v x) 10 0 o
def qStrike (v : Int32) : Ans := qR v 0 99 (nI (skN (foldU (skT v) 10 0 none)), some (skL (foldU (skT v) 10 0 none)))
def skO (o : Sk) (B : Nat) : Prop := ∀ q, o = some q → 1 ≤ q.1 ∧ q.1 ≤ B
theorem skO_p {v : Int32} {x y B : Nat} {o : Sk} (h : skO o B) : skO (skp v x y o) (B + 1) := by
  intro q hq
  unfold skp at hq
  split at hq
  · have := h q hq; omega
  · split at hq
    · have := h q hq; omega
    · cases o with
      | none => cases hq; exact ⟨Nat.le_refl _, by show 1 ≤ B + 1; omega⟩
      | some q0 =>
        cases hq
        have := h q0 rfl
        exact ⟨by show 1 ≤ q0.1 + 1; omega, by show q0.1 + 1 ≤ B + 1; omega⟩
def Q34 (b : Nat) : Prop := b = 3 ∨ b = 4
theorem l_X10_strike32 {F : Nat} (hF : 2000 ≤ F) (w : Wd) (v : Int32) (x : Nat) (hx : x < 10) (kk : Wd → Int32 → Option (Int32 × Wd)) (u : Wd) (o : Sk) (B : Nat) (hB : B ≤ 90) (h1 : Fr Q34 w u) (h2 : Tl u (skL o)) (h3 : skO o B) : ∃ w2, L_X10_strike_32 F v (nI x) kk F u (nI (skN o)) 0 = kk w2 (nI (skN (skT v x o))) ∧ Fr Q34 w w2 ∧ Tl w2 (skL (skT v x o)) ∧ skO (skT v x o) (B + 10) := by
  obtain ⟨w2, e1, e2⟩ := lpG (fun m w (o : Sk) i => L_X10_strike_32 F v (nI x) kk m w (nI (skN o)) i) (fun w o => kk w (nI (skN o))) (skp v x) (fun u o j => Fr Q34 w u ∧ Tl u (skL o) ∧ skO o (B + j)) 10
    (fun m u o hI => by
      show L_X10_strike_32 F v (nI x) kk (m + 1) u _ _ = _
      rw [L_X10_strike_32, if_pos (show (9 : Int32) < nI 10 by decide)])
    (fun m u o j hj hI => by
      obtain ⟨i1, i2, i3⟩ := hI
      show ∃ w2, L_X10_strike_32 F v (nI x) kk (m + 1) u _ _ = L_X10_strike_32 F v (nI x) kk m w2 _ _ ∧ _
      rw [L_X10_strike_32, if_neg (show ¬ (9 : Int32) < nI j from nI_nlt (a := 9) (b := j) (by omega) (by decide)), bnd_r (v_X10_bestReply (by omega) u _ _ _)]
      have i4 : skO (skp v x j o) (B + (j + 1)) := skO_p i3
      unfold K_X10_strike_75 K_X10_strike_72 at *
      by_cases c1 : brP v (nI x) (nI j) = 0
      · have e : skp v x j o = o := by unfold skp; rw [if_pos c1]
        rw [e] at i4 ⊢
        rw [if_pos c1, lt_v, nI_1]
        exact ⟨u, rfl, i1, i2, i4⟩
      · rw [if_neg c1, bnd_r (v_X10_bestReply (by omega) u _ _ _)]
        by_cases c2 : brP v (nI j) (nI x) = 0
        · have e : skp v x j o = o := by unfold skp; rw [if_neg c1, if_pos c2]
          rw [e] at i4 ⊢
          rw [if_pos c2, lt_v, nI_1]
          exact ⟨u, rfl, i1, i2, i4⟩
        · rw [if_neg c2]
          cases o with
          | none =>
            have e : skp v x j none = some (1, x, j) := by unfold skp; rw [if_neg c1, if_neg c2]
            rw [e] at i4 ⊢
            obtain ⟨u2, d1, d2, d3⟩ := v_X10_tell2 F u (Int32.toInt64 (nI x)) (Int32.toInt64 (nI j))
            rw [if_pos (show nI (skN none) = 0 from rfl), bnv_r d1]
            unfold K_X10_strike_75
            rw [lt_v, lt_v, nI_1, nI_1]
            exact ⟨u2, rfl, i1.tr d2 (fun _ h => h) (fun _ h => h), d3, i4⟩
          | some q =>
            have e : skp v x j (some q) = some (q.1 + 1, q.2.1, q.2.2) := by unfold skp; rw [if_neg c1, if_neg c2]
            have hq := i3 q rfl
            rw [e] at i4 ⊢
            rw [if_neg (show ¬ nI (skN (some q)) = 0 from nI_ne0 (by show 0 < q.1; omega) (by show q.1 < 2 ^ 31; omega))]
            unfold K_X10_strike_75
            rw [lt_v, lt_v, nI_1, nI_1]
            exact ⟨u, rfl, i1, i2, i4⟩)
    10 0 (by omega) F (by omega) u o ⟨h1, h2, h3⟩
  exact ⟨w2, e1, e2⟩
theorem Q34_t {w w2 : Wd} {v : Int32} {L : List Int64} (h : Fr Q34 w w2) (h3 : Tl w2 L) : AskC (some (v, w2)) (v, some L) w := ⟨w2, rfl, h.imp (fun b hb => by unfold Q34 at hb; unfold QP; omega), h3⟩
theorem v_X10_strike {F : Nat} (hF : 2000 ≤ F) {w : Wd} (v : Int32) : AskC (P_X10_strike F w v) (qStrike v) w := by
  unfold P_X10_strike qStrike
  refine askC_r (fun h1 h2 => ?_)
  obtain ⟨w1, a1, a2, a3⟩ := v_X7_clear F w
  rw [bnv_r a1]
  obtain ⟨w2, e1, e2, e3, -⟩ := lpG (fun m w (o : Sk) i => L_X10_strike_23 F v (fun w x7 => some (x7, w)) m w (nI (skN o)) i) (fun w o => some (nI (skN o), w)) (skT v) (fun u o j => Fr Q34 w u ∧ Tl u (skL o) ∧ skO o (10 * j)) 10
    (fun m u o hI => by
      show L_X10_strike_23 F v _ (m + 1) u _ _ = _
      rw [L_X10_strike_23, if_pos (show (9 : Int32) < nI 10 by decide)])
    (fun m u o j hj hI => by
      obtain ⟨i1, i2, i3⟩ := hI
      show ∃ w2, L_X10_strike_23 F v _ (m + 1) u _ _ = L_X10_strike_23 F v _ m w2 _ _ ∧ _
      obtain ⟨u2, d1, d2, d3, d4⟩ := l_X10_strike32 hF w v j hj (fun w x12 => lt (nI j + 1 : Int32) (fun x28 => L_X10_strike_23 F v (fun w x7 => some (x7, w)) m w x12 x28)) u o (10 * j) (by omega) i1 i2 i3
      rw [L_X10_strike_23, if_neg (show ¬ (9 : Int32) < nI j from nI_nlt (a := 9) (b := j) (by omega) (by decide)), d1, lt_v, nI_1]
      exact ⟨u2, rfl, d2, d3, by rw [show 10 * (j + 1) = 10 * j + 10 by omega]; exact d4⟩)
    10 0 (by omega) F (by omega) w1 none ⟨a2, a3, fun q hq => by cases hq⟩
  rw [show L_X10_strike_23 F v _ F w1 0 0 = _ from e1]
  exact Q34_t e2 e3
theorem l_X11_strike37 {F : Nat} (hF : 2000 ≤ F) (w : Wd) (v : Int32) (x : Nat) (hx : x < 10) (kk : Wd → Int32 → Option (Int32 × Wd)) (u : Wd) (o : Sk) (B : Nat) (hB : B ≤ 90) (h1 : Fm Tm w u) (h2 : TlM u (skL o)) (h3 : skO o B) : ∃ w2, L_X11_strike_37 F v (nI x) kk F u (nI (skN o)) 0 = kk w2 (nI (skN (skT v x o))) ∧ Fm Tm w w2 ∧ TlM w2 (skL (skT v x o)) ∧ skO (skT v x o) (B + 10) := by
  obtain ⟨w2, e1, e2⟩ := lpG (fun m w (o : Sk) i => L_X11_strike_37 F v (nI x) kk m w (nI (skN o)) i) (fun w o => kk w (nI (skN o))) (skp v x) (fun u o j => Fm Tm w u ∧ TlM u (skL o) ∧ skO o (B + j)) 10
    (fun m u o hI => by
      show L_X11_strike_37 F v (nI x) kk (m + 1) u _ _ = _
      rw [L_X11_strike_37, if_pos (show (9 : Int32) < nI 10 by decide)])
    (fun m u o j hj hI => by
      obtain ⟨i1, i2, i3⟩ := hI
      show ∃ w2, L_X11_strike_37 F v (nI x) kk (m + 1) u _ _ = L_X11_strike_37 F v (nI x) kk m w2 _ _ ∧ _
      rw [L_X11_strike_37, if_neg (show ¬ (9 : Int32) < nI j from nI_nlt (a := 9) (b := j) (by omega) (by decide)), bnd_r (v_X11_isRest (by omega) u _ _ _)]
      have i4 : skO (skp v x j o) (B + (j + 1)) := skO_p i3
      unfold K_X11_strike_84
      by_cases c1 : brP v (nI x) (nI j) = 0
      · have e : skp v x j o = o := by unfold skp; rw [if_pos c1]
        rw [e] at i4 ⊢
        rw [if_pos c1, lt_v, nI_1]
        exact ⟨u, rfl, i1, i2, i4⟩
      · rw [if_neg c1, bnd_r (v_X11_isRest (by omega) u _ _ _)]
        by_cases c2 : brP v (nI j) (nI x) = 0
        · have e : skp v x j o = o := by unfold skp; rw [if_neg c1, if_pos c2]
          rw [e] at i4 ⊢
          rw [if_pos c2, lt_v, nI_1]
          exact ⟨u, rfl, i1, i2, i4⟩
        · rw [if_neg c2]
          unfold K_X11_strike_81 K_X11_strike_84
          cases o with
          | none =>
            have e : skp v x j none = some (1, x, j) := by unfold skp; rw [if_neg c1, if_neg c2]
            rw [e] at i4 ⊢
            obtain ⟨u2, d1, d2, d3⟩ := v_X11_enters F (L := []) i2 (by decide) (Int32.toInt64 (nI x))
            obtain ⟨u3, f1, f2, f3⟩ := v_X11_enters F (L := [_]) d3 (show 1 < 24 by decide) (Int32.toInt64 (nI j))
            rw [if_pos (show nI (skN none) = 0 from rfl), bnv_r d1, bnv_r f1, lt_v, lt_v, nI_1, nI_1]
            exact ⟨u3, rfl, (i1.tr d2).tr f2, f3, i4⟩
          | some q =>
            have e : skp v x j (some q) = some (q.1 + 1, q.2.1, q.2.2) := by unfold skp; rw [if_neg c1, if_neg c2]
            have hq := i3 q rfl
            rw [e] at i4 ⊢
            rw [if_neg (show ¬ nI (skN (some q)) = 0 from nI_ne0 (by show 0 < q.1; omega) (by show q.1 < 2 ^ 31; omega)), lt_v, lt_v, nI_1, nI_1]
            exact ⟨u, rfl, i1, i2, i4⟩)
    10 0 (by omega) F (by omega) u o ⟨h1, h2, h3⟩
  exact ⟨w2, e1, e2⟩
theorem v_X11_strike {F : Nat} (hF : 2000 ≤ F) {w : Wd} (v : Int32) : AskM (P_X11_strike F w v) (qStrike v) w := by
  unfold P_X11_strike qStrike
  rw [lt_v, in_r F _ v 0 99]
  refine askM_r fm_t0 (fun h1 h2 => ?_)
  rw [lt_v]
  have t0 : Fm Tm (sI w 88 0 0) (sI (sI w 88 0 0) 88 1 0) := Fm.rfl'.sI (.inl ⟨rfl, rfl⟩)
  obtain ⟨w2, e1, e2, e3, -⟩ := lpG (fun m w (o : Sk) i => L_X11_strike_28 F v (fun w x7 => some (x7, w)) m w (nI (skN o)) i) (fun w o => some (nI (skN o), w)) (skT v) (fun u o j => Fm Tm (sI w 88 0 0) u ∧ TlM u (skL o) ∧ skO o (10 * j)) 10
    (fun m u o hI => by
      show L_X11_strike_28 F v _ (m + 1) u _ _ = _
      rw [L_X11_strike_28, if_pos (show (9 : Int32) < nI 10 by decide)])
    (fun m u o j hj hI => by
      obtain ⟨i1, i2, i3⟩ := hI
      show ∃ w2, L_X11_strike_28 F v _ (m + 1) u _ _ = L_X11_strike_28 F v _ m w2 _ _ ∧ _
      obtain ⟨u2, d1, d2, d3, d4⟩ := l_X11_strike37 hF (sI w 88 0 0) v j hj (fun w x12 => lt (nI j + 1 : Int32) (fun x28 => L_X11_strike_28 F v (fun w x7 => some (x7, w)) m w x12 x28)) u o (10 * j) (by omega) i1 i2 i3
      rw [L_X11_strike_28, if_neg (show ¬ (9 : Int32) < nI j from nI_nlt (a := 9) (b := j) (by omega) (by decide)), d1, lt_v, nI_1]
      exact ⟨u2, rfl, d2, d3, by rw [show 10 * (j + 1) = 10 * j + 10 by omega]; exact d4⟩)
    10 0 (by omega) F (by omega) (sI (sI w 88 0 0) 88 1 0) none ⟨t0, tlM_0, fun q hq => by cases hq⟩
  rw [show L_X11_strike_28 F v _ F _ 0 0 = _ from e1]
  exact am_t fm_t0 e2 e3
