-- ===== doubts, frees, persuade, firm =====
theorem l_X5_persuadedBy {F : Nat} (hF : 100 ≤ F) (w : Wd) (t : Nat) (x : Int32) : P_X5_persuadedBy F w 9 x = some (cloT (tC w t) x, w) := by
  unfold P_X5_persuadedBy
  obtain ⟨w2, e1, e2⟩ := lpG (fun n w (s : Int32) i => L_X5_persuadedBy_4 F 9 x (fun w x3 => some (x3, w)) n w s i) (fun w s => some (s, w)) (fun _ x => x ||| movT (tC w t) x) (fun u _ _ => u = w) 8
    (fun n u s hI => by
      show L_X5_persuadedBy_4 F 9 x _ (n + 1) u _ _ = _
      rw [L_X5_persuadedBy_4, if_pos (show (8 : Int32) ≤ nI 8 from Int32.le_refl _)])
    (fun n u s j hj hI => by
      subst hI
      show ∃ w2, L_X5_persuadedBy_4 F 9 x _ (n + 1) u _ _ = L_X5_persuadedBy_4 F 9 x _ n w2 _ _ ∧ _
      rw [L_X5_persuadedBy_4, if_neg (n8gt hj), bnd_r (v_X5_moved hF u t _), lt_v, lt_v, nI_1]
      exact ⟨u, rfl, rfl⟩)
    8 0 (by omega) F (by omega) w x rfl
  subst e2
  exact e1
def qDoubts (T : Tw) (b : Bl) (x : Int32) : Ans := qR x 0 9 (cloT T (b 15 ||| hearT T x), some [i64 (bc (cloT T (b 15 ||| hearT T x))), i64 (bc (hearT T x))])
theorem v_X10_doubts {F : Nat} (hF : 2000 ≤ F) {w : Wd} (x : Int32) : AskC (P_X10_doubts F w x) (qDoubts (tC w 5) (bC w 23) x) w := by
  unfold P_X10_doubts qDoubts
  refine askC_r (fun h1 h2 => ?_)
  rw [bnd_r (v_X5_hearing (by omega) w 5 x), bnd_r (l_X5_persuadedBy (by omega) w 5 _), bnd_r (v_bc F w _), bnd_r (v_bc F w _)]
  obtain ⟨w3, c1, c2, c3⟩ := v_X10_tell2 F w (Int32.toInt64 (bc (cloT (tC w 5) (gI w 23 8 ||| hearT (tC w 5) x)))) (Int32.toInt64 (bc (hearT (tC w 5) x)))
  rw [bnv_r c1]
  exact ask_t Fr.rfl' c2 c3
def qFrees (T : Tw) (b : Bl) (p : Nat) : Ans := match foldX (fun v (_ : Unit) => if cloT T (b 15 ||| hearT T (nI v)) = nI (2 ^ p - 1) then (Sum.inl v : Sum Nat Unit) else .inr ()) 10 0 () with
  | .inl v => (nI v, none)
  | .inr _ => (-2, none)
theorem v_X10_frees {F : Nat} (hF : 2000 ≤ F) {w : Wd} {p : Nat} (hp : p ≤ 8) (ep : gI w 9 2 = nI p) : AskC (P_X10_frees F w) (qFrees (tC w 5) (bC w 23) p) w := by
  unfold P_X10_frees qFrees
  rcases lpX (fun m w (_ : Unit) k => L_X10_frees_2 F (fun w  => some ((-2), w)) m w k) (fun w _ => some ((-2), w)) (fun u (o : Nat) => some (nI o, u)) (fun v (_ : Unit) => if cloT (tC w 5) (bC w 23 15 ||| hearT (tC w 5) (nI v)) = nI (2 ^ p - 1) then (Sum.inl v : Sum Nat Unit) else .inr ()) (fun u _ _ => u = w) (fun u _ => u = w) 10
    (fun m u b hI => by
      show L_X10_frees_2 F _ (m + 1) u _ = _
      rw [L_X10_frees_2, if_pos (show (9 : Int32) < nI 10 by decide)])
    (fun m u b k hk hI => by
      subst hI
      show (∃ w2 t, _ ∧ L_X10_frees_2 F _ (m + 1) u _ = L_X10_frees_2 F _ m w2 _ ∧ _) ∨ (∃ w2 o, _ ∧ L_X10_frees_2 F _ (m + 1) u _ = _ ∧ _)
      rw [L_X10_frees_2, if_neg (show ¬ (9 : Int32) < nI k from nI_nlt (a := 9) (b := k) (by omega) (by decide)), bnd_r (v_X5_hearing (by omega) u 5 _), bnd_r (l_X5_persuadedBy (by omega) u 5 _), bnd_r (v_X5_all F u 9 p hp ep)]
      show (∃ w2 t, _ ∧ (if cloT (tC u 5) (bC u 23 15 ||| hearT (tC u 5) (nI k)) = nI (2 ^ p - 1) then _ else _) = _ ∧ _) ∨ (∃ w2 o, _ ∧ (if cloT (tC u 5) (bC u 23 15 ||| hearT (tC u 5) (nI k)) = nI (2 ^ p - 1) then _ else _) = _ ∧ _)
      by_cases c : cloT (tC u 5) (bC u 23 15 ||| hearT (tC u 5) (nI k)) = nI (2 ^ p - 1)
      · rw [if_pos c, if_pos c]
        exact .inr ⟨u, k, rfl, rfl, rfl⟩
      · rw [if_neg c, if_neg c, lt_v, nI_1]
        exact .inl ⟨u, (), rfl, rfl, rfl⟩)
    10 0 (by omega) F (by omega) w () rfl with ⟨w2, t, a1, a2, a3⟩ | ⟨w2, o, a1, a2, a3⟩
  · subst a3
    rw [a1, show L_X10_frees_2 F _ F w2 0 = _ from a2]
    exact ask_n (p := SP) Fr.rfl' (fun b h => SP_n h)
  · subst a3
    rw [a1, show L_X10_frees_2 F _ F w2 0 = _ from a2]
    exact ask_n (p := SP) Fr.rfl' (fun b h => SP_n h)
def pps (T : Tw) (b : Bl) (p : Nat) (j : Nat) (x : Int32) : Int32 := if bc (nI j) < bc x ∧ cloT T (b 15 ||| nI j) = nI (2 ^ p - 1) then nI j else x
def qPersuade (T : Tw) (b : Bl) (p : Nat) : Ans := (bc (foldU (pps T b p) (2 ^ p) 0 (nI (2 ^ p - 1))), some [i64 (foldU (pps T b p) (2 ^ p) 0 (nI (2 ^ p - 1)))])
theorem v_X10_persuade {F : Nat} (hF : 2000 ≤ F) {w : Wd} {p : Nat} (hp : p ≤ 8) (ep : gI w 9 2 = nI p) : AskC (P_X10_persuade F w) (qPersuade (tC w 5) (bC w 23) p) w := by
  have h8 := pow8 hp
  unfold P_X10_persuade qPersuade
  rw [bnd_r (v_X5_all F w 9 p hp ep)]
  obtain ⟨w2, e1, e2⟩ := lpG (fun n w (s : Int32) i => L_X10_persuade_13 F (fun w x5 => bnv (P_X10_tell F w (Int32.toInt64 x5)) (fun w25 => bnd (P_J6_bitCount_0f7a4 F w25 x5) (fun x27 w26 => some (x27, w26)))) n w s i) (fun w s => bnv (P_X10_tell F w (Int32.toInt64 s)) (fun w25 => bnd (P_J6_bitCount_0f7a4 F w25 s) (fun x27 w26 => some (x27, w26)))) (pps (tC w 5) (bC w 23) p) (fun u _ _ => u = w) (2 ^ p)
    (fun n u s hI => by
      subst hI
      show L_X10_persuade_13 F _ (n + 1) u _ _ = _
      rw [L_X10_persuade_13, bnd_r (v_X5_all F u 9 p hp ep), if_pos (nI_lt (by omega) (by omega))])
    (fun n u s j hj hI => by
      subst hI
      show ∃ w2, L_X10_persuade_13 F _ (n + 1) u _ _ = L_X10_persuade_13 F _ n w2 _ _ ∧ _
      rw [L_X10_persuade_13, bnd_r (v_X5_all F u 9 p hp ep), if_neg (nI_nlt (by omega) (by omega)), bnd_r (v_bc F u _), bnd_r (v_bc F u _), lt_v]
      unfold pps K_X10_persuade_82
      simp only [lt_v, nI_1]
      refine ⟨u, ?_, rfl⟩
      by_cases c1 : bc (nI j) < bc s
      · rw [if_neg (Int32.not_le.mpr c1), if_neg (by decide), bnd_r (l_X5_persuadedBy (by omega) u 5 _), bnd_r (v_X5_all F u 9 p hp ep)]
        by_cases c2 : cloT (tC u 5) (bC u 23 15 ||| nI j) = nI (2 ^ p - 1)
        · rw [if_pos (show cloT (tC u 5) (gI u 23 8 ||| nI j) = nI (2 ^ p - 1) from c2), if_pos ⟨c1, c2⟩]
        · rw [if_neg (show ¬ cloT (tC u 5) (gI u 23 8 ||| nI j) = nI (2 ^ p - 1) from c2), if_neg (fun h => c2 h.2)]
      · rw [if_pos (Int32.not_lt.mp c1), if_pos rfl, if_neg (fun h => c1 h.1)])
    (2 ^ p) 0 (by omega) F (by omega) w (nI (2 ^ p - 1)) rfl
  subst e2
  rw [show L_X10_persuade_13 F _ F w2 (nI (2 ^ p - 1)) 0 = _ from e1]
  obtain ⟨w3, c1, c2, c3⟩ := v_X10_tell F w2 (Int32.toInt64 (foldU (pps (tC w2 5) (bC w2 23) p) (2 ^ p) 0 (nI (2 ^ p - 1))))
  rw [bnv_r c1, bnd_r (v_bc F w3 _)]
  exact ask_t Fr.rfl' c2 c3
def frm (T : Tw) (p i : Nat) : Int32 := if p ≤ i then 0 else if T 3 i = 0 then bit1 i else if T 3 i ≤ nI p - 1 then 0 else bit1 i
def qFirm (T : Tw) (p : Nat) : Ans := (orR (frm T p) 0 8, some [i64 (bc (orR (frm T p) 0 8))])
theorem orF (f : Nat → Int32) : ∀ m j x, foldU (fun i x => x ||| f i) m j x = x ||| orR f j m := by
  intro m
  induction m with
  | zero => intro j x; exact (or0 x).symm
  | succ m ih =>
    intro j x
    show foldU (fun i x => x ||| f i) m (j + 1) (x ||| f j) = x ||| (f j ||| orR f (j + 1) m)
    rw [ih, orA]
theorem v_X10_firm {F : Nat} (hF : 2000 ≤ F) {w : Wd} {p : Nat} (hp : p ≤ 8) (ep : gI w 9 2 = nI p) : AskC (P_X10_firm F w) (qFirm (tC w 5) p) w := by
  unfold P_X10_firm qFirm
  obtain ⟨w2, e1, e2⟩ := lpG (fun n w (s : Int32) i => L_X10_firm_4 F (fun w x3 => bnd (P_J6_bitCount_0f7a4 F w x3) (fun x19 w18 => bnv (P_X10_tell F w18 (Int32.toInt64 x19)) (fun w20 => some (x3, w20)))) n w s i) (fun w s => bnd (P_J6_bitCount_0f7a4 F w s) (fun x19 w18 => bnv (P_X10_tell F w18 (Int32.toInt64 x19)) (fun w20 => some (s, w20)))) (fun i x => x ||| frm (tC w 5) p i) (fun u _ _ => u = w) 8
    (fun n u s hI => by
      subst hI
      show L_X10_firm_4 F _ (n + 1) u _ _ = _
      rw [L_X10_firm_4, if_pos (show (8 : Int32) ≤ nI 8 from Int32.le_refl _)])
    (fun n u s j hj hI => by
      subst hI
      show ∃ w2, L_X10_firm_4 F _ (n + 1) u _ _ = L_X10_firm_4 F _ n w2 _ _ ∧ _
      rw [L_X10_firm_4, if_neg (n8gt hj), bnd_r (v_X5_secondOf F u 9 j hj), bnd_r (v_X5_has F u 9 j hj), ep]
      unfold frm K_X10_firm_56 K_X10_firm_62
      simp only [lt_v, nI_1]
      refine ⟨u, ?_, rfl⟩
      show (if (if nI p ≤ nI j then (0 : Int32) else 1) = 0 then _ else if tC u 5 3 j = 0 then _ else if tC u 5 3 j ≤ nI p - 1 then _ else _) = _
      by_cases c1 : p ≤ j
      · rw [if_pos (nI_le c1 (by omega)), if_pos rfl, if_pos c1, or0]
      · rw [if_neg (nI_ge (by omega) (by omega)), if_neg (by decide), if_neg c1]
        by_cases c2 : tC u 5 3 j = 0
        · rw [if_pos c2, if_pos c2]; rfl
        · rw [if_neg c2, if_neg c2]
          by_cases c3 : tC u 5 3 j ≤ nI p - 1
          · rw [if_pos c3, if_pos c3, or0]
          · rw [if_neg c3, if_neg c3]; rfl)
    8 0 (by omega) F (by omega) w 0 rfl
  subst e2
  rw [show L_X10_firm_4 F _ F w2 0 0 = _ from e1, orF, zor, bnd_r (v_bc F w2 _)]
  obtain ⟨w3, c1, c2, c3⟩ := v_X10_tell F w2 (Int32.toInt64 (bc (orR (frm (tC w2 5) p) 0 8)))
  rw [bnv_r c1]
  exact ask_t Fr.rfl' c2 c3
-- the model
theorem m_hear {F : Nat} (hF : 100 ≤ F) {w : Wd} {T : Tw} {r p N : Nat} (ok : okTw T r p N) (h : MT w T r p N) (v : Int32) : P_X11_hearing F w v = some (hearT T v, w) := by
  have hp := ok.2.1
  unfold P_X11_hearing
  obtain ⟨w2, e1, e2⟩ := lpG (fun n w (s : Int32) i => L_X11_hearing_4 F v (fun w x4 => some (x4, w)) n w s i) (fun w s => some (s, w)) (fun i x => x ||| (if v < T 2 i then 0 else bit1 i)) (fun u _ _ => u = w) p
    (fun n u s hI => by
      subst hI
      show L_X11_hearing_4 F v _ (n + 1) u _ _ = _
      rw [L_X11_hearing_4, h.2.1, if_pos (Int32.le_refl _)])
    (fun n u s j hj hI => by
      subst hI
      show ∃ w2, L_X11_hearing_4 F v _ (n + 1) u _ _ = L_X11_hearing_4 F v _ n w2 _ _ ∧ _
      rw [L_X11_hearing_4, h.2.1, if_neg (nI_ge hj (by omega)), gd_t (inB_n (show j < 8 by omega) (by omega)), nI_clamp (by omega), (h.2.2.2.2.2.2.1 j hj).1]
      simp only [lt_v, nI_1]
      exact ⟨u, rfl, rfl⟩)
    p 0 (by omega) F (by omega) w 0 rfl
  subst e2
  refine (show L_X11_hearing_4 F v _ F w2 0 0 = _ from e1).trans ?_
  rw [orF, zor]
  unfold hearT
  rw [orR_upto (g := fun i => if T 4 1 ≤ nI i then 0 else if T 2 i ≤ v then bit1 i else 0) hp (fun i hi => by
    rw [ok.2.2.2.1, if_neg (nI_ge hi (by omega))]
    by_cases c : v < T 2 i
    · rw [if_pos c, if_neg (Int32.not_le.mpr c)]
    · rw [if_neg c, if_pos (Int32.not_lt.mp c)]) (fun i hi hi2 => by rw [ok.2.2.2.1, if_pos (nI_le hi (by omega))])]
theorem hear_N {T : Tw} {r p N : Nat} (ok : okTw T r p N) (v : Int32) : ∃ h : Nat, h < 2 ^ p ∧ hearT T v = nI h := by
  have hp := ok.2.1
  have e : hearT T v = nI (orN (fun i => decide (i < p) && decide (T 2 i ≤ v)) 0 8) := by
    unfold hearT
    refine orR_N 8 0 (by decide) (fun i _ hi => ?_)
    rw [ok.2.2.2.1]
    by_cases h1 : i < p
    · rw [if_neg (nI_ge h1 (by omega)), decide_eq_true h1, Bool.true_and]
      by_cases h2 : T 2 i ≤ v
      · rw [if_pos h2, decide_eq_true h2]; rfl
      · rw [if_neg h2, decide_eq_false h2]; rfl
    · rw [if_pos (nI_le (by omega) (by omega)), decide_eq_false h1]; rfl
  refine ⟨_, ?_, e⟩
  refine sub_lt hp (orN_lt _ 8 0 (by decide)) (fun k hk hb => ?_)
  rw [orN_bit, Bool.and_eq_true, Bool.and_eq_true] at hb
  rw [Nat.testBit_two_pow_sub_one]
  exact hb.1.1
theorem m_spread {F : Nat} (hF : 100 ≤ F) {w : Wd} {T : Tw} {r p N : Nat} (ok : okTw T r p N) (h : MT w T r p N) {s : Nat} (hs : s < 2 ^ p) : P_X11_spreads F w (nI s) = some (cloT T (nI s), w) := by
  have hp := ok.2.1
  have h8 := pow8 hp
  have hnd := fun i => nd_e ok i
  have hin : ∀ (y k : Int32) (kk : Wd → Int32 → Option (Int32 × Wd)) (s : Nat), s < 256 → ∃ w2, L_X11_spreads_15 F y k kk F w (nI s) 0 = kk w2 (nI (foldU (sq1 (ndT T)) p 0 s)) ∧ w2 = w := by
    intro y k kk s hs
    obtain ⟨w2, e1, e2, -⟩ := lpG (fun n w (s : Nat) i => L_X11_spreads_15 F y k kk n w (nI s) i) (fun w s => kk w (nI s)) (sq1 (ndT T)) (fun u s _ => u = w ∧ s < 256) p
      (fun n u s hI => by
        obtain ⟨rfl, -⟩ := hI
        show L_X11_spreads_15 F y k kk (n + 1) u _ _ = _
        rw [L_X11_spreads_15, h.2.1, if_pos (Int32.le_refl _)])
      (fun n u s j hj hI => by
        obtain ⟨rfl, hs⟩ := hI
        show ∃ w2, L_X11_spreads_15 F y k kk (n + 1) u _ _ = L_X11_spreads_15 F y k kk n w2 _ _ ∧ _
        obtain ⟨n1, n2, -⟩ := hnd j
        rw [L_X11_spreads_15, h.2.1, if_neg (nI_ge hj (by omega)), gd_t (inB_n (show j < 8 by omega) (by omega)), nI_clamp (by omega), (h.2.2.2.2.2.2.1 j hj).2, bnd_r (v_bc F u _), gd_t (inB_n (show j < 8 by omega) (by omega)), (h.2.2.2.2.2.2.1 j hj).2]
        unfold K_X11_spreads_59 K_X11_spreads_60
        simp only [lt_v, nI_1]
        have ec : nI s &&& (ishlI 1 (nI j) ^^^ (-1)) = nI (clr s j) := (clr_e s hs j (by omega)).1
        have hcl := (clr_e s hs j (by omega)).2
        have hpc := pc_le hcl
        rw [ec, bc_pc hcl, n1]
        refine ⟨u, ?_, rfl, sq1_lt (by omega) hs⟩
        have fin : ∀ x : Int32, x = nI (if cnb (ndT T) s j then 2 ^ j else 0) → L_X11_spreads_15 F y k kk n u (nI s ||| x) (nI (j + 1)) = L_X11_spreads_15 F y k kk n u (nI (sq1 (ndT T) j s)) (nI (j + 1)) := fun x hx => by
          unfold sq1
          rw [nI_or, hx]
        by_cases a : ndT T j = 0
        · rw [if_pos (by rw [a]; exact Int32.le_refl _)]
          refine fin _ ?_
          unfold cnb
          rw [decide_eq_false (fun h => h a)]
          rfl
        · rw [if_neg (nI_nle (by omega) (by omega))]
          by_cases b : ndT T j ≤ pc (clr s j)
          · rw [if_neg (nI_nlt b (by omega)), if_neg (by decide)]
            refine fin _ ?_
            unfold cnb
            rw [decide_eq_true a, decide_eq_true b]
            exact bit1_N j (by omega)
          · rw [if_pos (nI_lt (by omega) (by omega)), if_pos rfl]
            refine fin _ ?_
            unfold cnb
            rw [decide_eq_true a, decide_eq_false b]
            rfl)
      p 0 (by omega) F (by omega) w s ⟨rfl, hs⟩
    exact ⟨w2, e1, e2⟩
  unfold P_X11_spreads
  have hf : ∀ s, s < 256 → foldU (sq1 (ndT T)) p 0 s < 256 := fun s hs => (sqF (nd := ndT T) hp p 0 s (by omega) hs).1
  obtain ⟨w2, e1, e2, -⟩ := lpG (fun n w (t : Nat) i => L_X11_spreads_4 F (nI s) (fun w x4 => some (x4, w)) n w (nI t) i) (fun w t => some (nI t, w)) (fun _ t => foldU (sq1 (ndT T)) p 0 t) (fun u t _ => u = w ∧ t < 256) p
    (fun n u t hI => by
      obtain ⟨rfl, -⟩ := hI
      show L_X11_spreads_4 F (nI s) _ (n + 1) u _ _ = _
      rw [L_X11_spreads_4, h.2.1, if_pos (Int32.le_refl _)])
    (fun n u t j hj hI => by
      obtain ⟨rfl, ht⟩ := hI
      show ∃ w2, L_X11_spreads_4 F (nI s) _ (n + 1) u _ _ = L_X11_spreads_4 F (nI s) _ n w2 _ _ ∧ _
      obtain ⟨u2, f1, f2⟩ := hin (nI s) (nI j) (fun w x9 => lt (nI j + 1 : Int32) (fun x34 => L_X11_spreads_4 F (nI s) (fun w x4 => some (x4, w)) n w x9 x34)) t ht
      rw [L_X11_spreads_4, h.2.1, if_neg (nI_ge hj (by omega)), f1, lt_v, nI_1]
      exact ⟨u2, rfl, f2, hf t ht⟩)
    p 0 (by omega) F (by omega) w s ⟨rfl, by omega⟩
  subst e2
  refine (show L_X11_spreads_4 F (nI s) _ F w2 (nI s) 0 = _ from e1).trans ?_
  have e : ∀ m j t, foldU (fun _ t => foldU (sq1 (ndT T)) p 0 t) m j t = sqN (ndT T) p m t := by
    intro m
    induction m with
    | zero => intro j t; rfl
    | succ m ih => intro j t; exact ih (j + 1) _
  obtain ⟨t1, t2⟩ := two_ways (nd := ndT T) hp (fun i hi => (hnd i).2.2 hi) hs
  rw [e, t1]
  unfold cloT
  rw [clo_N ok 8 0 s (by omega)]
theorem m_all (F : Nat) {w : Wd} {T : Tw} {r p N : Nat} (ok : okTw T r p N) (h : MT w T r p N) : P_X11_allPeople F w = some (nI (2 ^ p - 1), w) := by
  unfold P_X11_allPeople
  rw [h.2.1, shl_all p ok.2.1]
/-- who doubts is a set of townspeople -/
def okDb (b : Bl) (p : Nat) : Prop := ∃ d : Nat, d < 2 ^ p ∧ b 15 = nI d
theorem or_p {a b p : Nat} (ha : a < 2 ^ p) (hb : b < 2 ^ p) : a ||| b < 2 ^ p := Nat.or_lt_two_pow ha hb
theorem v_X11_doubts {F : Nat} (hF : 2000 ≤ F) {w : Wd} {T : Tw} {b : Bl} {r p N : Nat} (g : MG w T b r p N) (hd : okDb b p) (x : Int32) : AskM (P_X11_doubts F w x) (qDoubts T b x) w := by
  obtain ⟨d, hd1, hd2⟩ := hd
  have h8 := pow8 g.1.2.1
  unfold P_X11_doubts qDoubts
  rw [lt_v, in_r F _ x 0 9]
  refine askM_r fm_t0 (fun h1 h2 => ?_)
  have g0 := MG_QN g fm_t0
  obtain ⟨h, hh1, hh2⟩ := hear_N g.1 x
  have hs := or_p hd1 hh1
  have e15 : gI (sI w 88 0 0) 95 15 = b 15 := by rw [← g0.2.2.1]; rfl
  simp only [gd1, GL]
  rw [bnd_r (m_hear (by omega) g0.1 g0.2.1 x), e15, hd2, hh2, ← nI_or, bnd_r (m_spread (by omega) g0.1 g0.2.1 hs), lt_v, bnd_r (v_bc F _ _)]
  have ecl : cloT T (nI (d ||| h)) = nI (clN (ndT T) 8 (d ||| h)) := by unfold cloT; rw [clo_N g.1 8 0 _ (by omega)]
  have hcl := clN_lt (nd := ndT T) 8 (d ||| h) (by omega)
  have hand : cloT T (nI (d ||| h)) &&& nI h = nI h := by
    rw [ecl, ← nI_and]
    congr 1
    have hup := clN_up (nd := ndT T) 8 (d ||| h)
    refine bit_ext (Nat.lt_of_le_of_lt Nat.and_le_right (by omega)) (by omega) (fun k hk => ?_)
    rw [Nat.testBit_and]
    cases e : h.testBit k
    · rw [Bool.and_false]
    · rw [hup k hk (by rw [Nat.testBit_or, e, Bool.or_true]), Bool.and_true]
  obtain ⟨w2, f1, f2, f3⟩ := v_X11_enters F (w := sI (sI w 88 0 0) 88 1 0) tlM_0 (by decide) (Int32.toInt64 (bc (cloT T (nI (d ||| h)))))
  have f4 : Fm Tm (sI w 88 0 0) w2 := (show Fm Tm _ _ from Fm.rfl'.sI (.inl ⟨rfl, rfl⟩)).tr f2
  have g2 := MG_QM g0 (f4.imp (fun _ _ h => Tm_QM h))
  rw [bnv_r f1, bnd_r (m_hear (by omega) g2.1 g2.2.1 x), bnd_r (v_bc F _ _), hh2, hand]
  obtain ⟨w3, q1, q2, q3⟩ := v_X11_enters F (L := [_]) f3 (show 1 < 24 by decide) (Int32.toInt64 (bc (nI h)))
  rw [bnv_r q1]
  exact am_t fm_t0 (f4.tr q2) q3
theorem v_X11_frees {F : Nat} (hF : 2000 ≤ F) {w : Wd} {T : Tw} {b : Bl} {r p N : Nat} (g : MG w T b r p N) (hd : okDb b p) : AskM (P_X11_frees F w) (qFrees T b p) w := by
  obtain ⟨d, hd1, hd2⟩ := hd
  have g0 := MG_QN g fm_t0
  have e15 : gI (sI w 88 0 0) 95 15 = b 15 := by rw [← g0.2.2.1]; rfl
  unfold P_X11_frees qFrees
  rw [lt_v]
  rcases lpX (fun m w (_ : Unit) k => L_X11_frees_7 F (fun w  => some ((-2), w)) m w k) (fun w _ => some ((-2), w)) (fun u (o : Nat) => some (nI o, u)) (fun v (_ : Unit) => if cloT T (b 15 ||| hearT T (nI v)) = nI (2 ^ p - 1) then (Sum.inl v : Sum Nat Unit) else .inr ()) (fun u _ _ => u = sI w 88 0 0) (fun u _ => u = sI w 88 0 0) 10
    (fun m u b hI => by
      show L_X11_frees_7 F _ (m + 1) u _ = _
      rw [L_X11_frees_7, if_pos (show (9 : Int32) < nI 10 by decide)])
    (fun m u _ k hk hI => by
      subst hI
      show (∃ w2 t, _ ∧ L_X11_frees_7 F _ (m + 1) _ _ = L_X11_frees_7 F _ m w2 _ ∧ _) ∨ (∃ w2 o, _ ∧ L_X11_frees_7 F _ (m + 1) _ _ = _ ∧ _)
      obtain ⟨h, hh1, hh2⟩ := hear_N g.1 (nI k)
      rw [L_X11_frees_7, if_neg (show ¬ (9 : Int32) < nI k from nI_nlt (a := 9) (b := k) (by omega) (by decide))]
      simp only [gd1, GL]
      rw [bnd_r (m_hear (by omega) g0.1 g0.2.1 _), e15, hd2, hh2, ← nI_or, bnd_r (m_spread (by omega) g0.1 g0.2.1 (or_p hd1 hh1)), bnd_r (m_all F g0.1 g0.2.1)]
      by_cases c : cloT T (nI (d ||| h)) = nI (2 ^ p - 1)
      · rw [if_pos c, if_pos c]
        exact .inr ⟨_, k, rfl, rfl, rfl⟩
      · rw [if_neg c, if_neg c, lt_v, nI_1]
        exact .inl ⟨_, (), rfl, rfl, rfl⟩)
    10 0 (by omega) F (by omega) (sI w 88 0 0) () rfl with ⟨w2, t, a1, a2, a3⟩ | ⟨w2, o, a1, a2, a3⟩
  · rw [a1, show L_X11_frees_7 F _ F _ 0 = _ from a2, a3]
    exact am_n fm_t0
  · rw [a1, show L_X11_frees_7 F _ F _ 0 = _ from a2, a3]
    exact am_n fm_t0
-- the model starts with none, the class with all: they end alike
def pmp (T : Tw) (b : Bl) (p : Nat) (j : Nat) (x : Int32) : Int32 := if (x < 0 ∨ bc (nI j) < bc x) ∧ cloT T (b 15 ||| nI j) = nI (2 ^ p - 1) then nI j else x
theorem pc_max : ∀ p : Nat, p < 9 → ∀ s : Nat, s < 2 ^ p → ¬ s = 2 ^ p - 1 → bc (nI s) < bc (nI (2 ^ p - 1)) := by decide +kernel
theorem clo_full {T : Tw} {b : Bl} {r p N : Nat} (ok : okTw T r p N) (hd : okDb b p) : cloT T (b 15 ||| nI (2 ^ p - 1)) = nI (2 ^ p - 1) := by
  have hp := ok.2.1
  have h8 := pow8 hp
  obtain ⟨d, hd1, hd2⟩ := hd
  have e : d ||| (2 ^ p - 1) = 2 ^ p - 1 := sub_eq (or_256 (by omega) (by omega)) (by omega) (or_sub (sub_full hd1) (sub_rfl _)) (fun k hk h => by rw [Nat.testBit_or, h, Bool.or_true])
  rw [hd2, ← nI_or, e]
  unfold cloT
  rw [clo_N ok 8 0 _ (by omega)]
  congr 1
  exact sub_eq (clN_lt 8 _ (by omega)) (by omega) (clN_in (by omega) (full_c hp (fun i hi => (nd_e ok i).2.2 hi)) 8 _ (by omega) (sub_rfl _)) (clN_up 8 _)
theorem pmp_rel {T : Tw} {b : Bl} {r p N : Nat} (ok : okTw T r p N) (hd : okDb b p) : ∀ m j, j + m = 2 ^ p → ∀ x y : Int32, ((x = -1 ∧ y = nI (2 ^ p - 1)) ∨ (x = y ∧ ∃ s : Nat, s < 2 ^ p ∧ x = nI s)) → ((j < 2 ^ p) ∨ x = y) → foldU (pmp T b p) m j x = foldU (pps T b p) m j y ∧ ∃ s : Nat, s < 2 ^ p ∧ foldU (pps T b p) m j y = nI s := by
  have hp := ok.2.1
  have h8 := pow8 hp
  intro m
  induction m with
  | zero =>
    intro j hj x y h h2
    rcases h2 with h2 | h2
    · omega
    · subst h2
      refine ⟨rfl, ?_⟩
      rcases h with ⟨h, h3⟩ | ⟨-, h⟩
      · exact ⟨_, by omega, h3⟩
      · exact h
  | succ m ih =>
    intro j hj x y h _
    have hjp : j < 2 ^ p := by omega
    show foldU (pmp T b p) m (j + 1) (pmp T b p j x) = foldU (pps T b p) m (j + 1) (pps T b p j y) ∧ _
    have key : ((pmp T b p j x = -1 ∧ pps T b p j y = nI (2 ^ p - 1)) ∨ (pmp T b p j x = pps T b p j y ∧ ∃ s : Nat, s < 2 ^ p ∧ pmp T b p j x = nI s)) ∧ (j + 1 < 2 ^ p ∨ pmp T b p j x = pps T b p j y) := by
      unfold pmp pps
      rcases h with ⟨rfl, rfl⟩ | ⟨rfl, s, hs, es⟩
      · by_cases hfull : j = 2 ^ p - 1
        · have c := clo_full ok hd
          rw [← hfull] at c ⊢
          rw [if_pos ⟨.inl (by decide), c⟩, if_neg (fun q => Int32.lt_irrefl q.1)]
          exact ⟨.inr ⟨rfl, j, hjp, rfl⟩, .inr rfl⟩
        · have hlt := pc_max p (by omega) j hjp hfull
          by_cases c : cloT T (b 15 ||| nI j) = nI (2 ^ p - 1)
          · rw [if_pos ⟨.inl (by decide), c⟩, if_pos ⟨hlt, c⟩]
            exact ⟨.inr ⟨rfl, j, hjp, rfl⟩, .inr rfl⟩
          · rw [if_neg (fun q => c q.2), if_neg (fun q => c q.2)]
            exact ⟨.inl ⟨rfl, rfl⟩, .inl (by omega)⟩
      · have hn : ¬ x < 0 := by rw [es]; exact nI_pos (by omega)
        by_cases c : bc (nI j) < bc x ∧ cloT T (b 15 ||| nI j) = nI (2 ^ p - 1)
        · rw [if_pos ⟨.inr c.1, c.2⟩, if_pos c]
          exact ⟨.inr ⟨rfl, j, hjp, rfl⟩, .inr rfl⟩
        · rw [if_neg (fun q => c ⟨q.1.resolve_left hn, q.2⟩), if_neg c]
          exact ⟨.inr ⟨rfl, s, hs, es⟩, .inr rfl⟩
    exact ih (j + 1) (by omega) _ _ key.1 key.2
theorem v_X11_persuade {F : Nat} (hF : 2000 ≤ F) {w : Wd} {T : Tw} {b : Bl} {r p N : Nat} (g : MG w T b r p N) (hd : okDb b p) : AskM (P_X11_persuade F w) (qPersuade T b p) w := by
  have h8 := pow8 g.1.2.1
  obtain ⟨r1, s, r2, r3⟩ := pmp_rel g.1 hd (2 ^ p) 0 (by omega) (-1) (nI (2 ^ p - 1)) (.inl ⟨rfl, rfl⟩) (.inl (by omega))
  obtain ⟨d, hd1, hd2⟩ := hd
  have g0 := MG_QN g fm_t0
  have e15 : gI (sI w 88 0 0) 95 15 = b 15 := by rw [← g0.2.2.1]; rfl
  unfold P_X11_persuade qPersuade
  rw [lt_v]
  obtain ⟨w2, e1, e2, -⟩ := lpG (fun n w (s : Int32) i => L_X11_persuade_9 F (fun w x4 => lt (sI w 88 1 0) (fun w46 => bnv (P_X11_enters F w46 (Int32.toInt64 x4)) (fun w47 => bnd (P_J6_bitCount_0f7a4 F w47 x4) (fun x49 w48 => some (x49, w48))))) n w s i) (fun w x4 => lt (sI w 88 1 0) (fun w46 => bnv (P_X11_enters F w46 (Int32.toInt64 x4)) (fun w47 => bnd (P_J6_bitCount_0f7a4 F w47 x4) (fun x49 w48 => some (x49, w48))))) (pmp T b p) (fun u s _ => u = sI w 88 0 0 ∧ (s < 0 ∨ 0 ≤ s)) (2 ^ p)
    (fun n u s hI => by
      obtain ⟨rfl, -⟩ := hI
      show L_X11_persuade_9 F _ (n + 1) _ _ _ = _
      rw [L_X11_persuade_9, bnd_r (m_all F g0.1 g0.2.1), if_pos (nI_lt (by omega) (by omega))])
    (fun n u s j hj hI => by
      obtain ⟨rfl, -⟩ := hI
      show ∃ w2, L_X11_persuade_9 F _ (n + 1) _ _ _ = L_X11_persuade_9 F _ n w2 _ _ ∧ _
      rw [L_X11_persuade_9, bnd_r (m_all F g0.1 g0.2.1), if_neg (nI_nlt (by omega) (by omega))]
      have hlast : ∀ x : Int32, x < 0 ∨ 0 ≤ x := fun x => by
        by_cases h : x < 0
        · exact .inl h
        · exact .inr (Int32.not_lt.mp h)
      refine ⟨sI w 88 0 0, ?_, rfl, hlast _⟩
      unfold K_X11_persuade_32 K_X11_persuade_37 K_X11_persuade_66 K_X11_persuade_67 pmp
      simp only [gd1, GL, lt_v, nI_1, v_bc, bnd_s]
      rw [e15, hd2, ← nI_or, m_spread (by omega) g0.1 g0.2.1 (or_p hd1 hj)]
      simp only [bnd_s]
      rw [m_all F g0.1 g0.2.1]
      simp only [bnd_s]
      by_cases c1 : s < 0
      · rw [if_pos c1, if_neg (by decide)]
        by_cases c2 : cloT T (nI (d ||| j)) = nI (2 ^ p - 1)
        · rw [if_pos c2, if_pos ⟨.inl c1, c2⟩]
        · rw [if_neg c2, if_neg (fun q => c2 q.2)]
      · rw [if_neg c1]
        by_cases c3 : bc (nI j) < bc s
        · rw [if_neg (Int32.not_le.mpr c3), if_neg (by decide)]
          by_cases c2 : cloT T (nI (d ||| j)) = nI (2 ^ p - 1)
          · rw [if_pos c2, if_pos ⟨.inr c3, c2⟩]
          · rw [if_neg c2, if_neg (fun q => c2 q.2)]
        · rw [if_pos (Int32.not_lt.mp c3), if_pos rfl, if_neg (fun q => by rcases q.1 with q | q; exact c1 q; exact c3 q)])
    (2 ^ p) 0 (by omega) F (by omega) (sI w 88 0 0) (-1) ⟨rfl, .inl (by decide)⟩
  subst e2
  rw [show L_X11_persuade_9 F _ F (sI w 88 0 0) (-1) 0 = _ from e1, r1, lt_v]
  exact am_1 fm_t0 _ _ (fun w3 f1 f2 => by rw [bnd_r (v_bc F w3 _)]; exact am_t fm_t0 f1 f2)
theorem v_X11_firm {F : Nat} (hF : 2000 ≤ F) {w : Wd} {T : Tw} {b : Bl} {r p N : Nat} (g : MG w T b r p N) : AskM (P_X11_firm F w) (qFirm T p) w := by
  have hp := g.1.2.1
  have g0 := MG_QN g fm_t0
  unfold P_X11_firm qFirm
  rw [lt_v]
  obtain ⟨w2, e1, e2⟩ := lpG (fun n w (s : Int32) i => L_X11_firm_9 F (fun w x4 => lt (sI w 88 1 0) (fun w21 => bnd (P_J6_bitCount_0f7a4 F w21 x4) (fun x23 w22 => bnv (P_X11_enters F w22 (Int32.toInt64 x23)) (fun w24 => some (x4, w24))))) n w s i) (fun w x4 => lt (sI w 88 1 0) (fun w21 => bnd (P_J6_bitCount_0f7a4 F w21 x4) (fun x23 w22 => bnv (P_X11_enters F w22 (Int32.toInt64 x23)) (fun w24 => some (x4, w24))))) (fun i x => x ||| frm T p i) (fun u _ _ => u = sI w 88 0 0) p
    (fun n u s hI => by
      subst hI
      show L_X11_firm_9 F _ (n + 1) _ _ _ = _
      rw [L_X11_firm_9, g0.2.1.2.1, if_pos (Int32.le_refl _)])
    (fun n u s j hj hI => by
      subst hI
      show ∃ w2, L_X11_firm_9 F _ (n + 1) _ _ _ = L_X11_firm_9 F _ n w2 _ _ ∧ _
      rw [L_X11_firm_9, g0.2.1.2.1, if_neg (nI_ge hj (by omega)), gd_t (inB_n (show j < 8 by omega) (by omega)), nI_clamp (by omega), (g0.2.1.2.2.2.2.2.2.1 j hj).2, gd_t (inB_n (show j < 8 by omega) (by omega))]
      unfold frm K_X11_firm_42 K_X11_firm_49
      simp only [lt_v, nI_1]
      rw [if_neg (show ¬ p ≤ j by omega)]
      refine ⟨sI w 88 0 0, ?_, rfl⟩
      by_cases c2 : T 3 j = 0
      · rw [if_pos c2, if_pos c2]; rfl
      · rw [if_neg c2, if_neg c2]
        by_cases c3 : T 3 j ≤ nI p - 1
        · rw [if_pos c3, if_pos c3]
        · rw [if_neg c3, if_neg c3]; rfl)
    p 0 (by omega) F (by omega) (sI w 88 0 0) 0 rfl
  subst e2
  rw [show L_X11_firm_9 F _ F (sI w 88 0 0) 0 0 = _ from e1, orF, zor, orR_upto (g := frm T p) hp (fun i hi => rfl) (fun i hi hi2 => by unfold frm; rw [if_pos hi]), lt_v, bnd_r (v_bc F _ _)]
  exact am_1 fm_t0 _ _ (fun w3 f1 f2 => am_t fm_t0 f1 f2)
