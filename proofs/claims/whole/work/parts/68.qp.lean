-- ===== noted, forget, rows, rang, ask =====
def posB (ft : Nat → Nat → Bool) (k r : Nat) : Bool := decide (0 < Vw ft k r) && decide (0 < Ww ft (5 - k) r)
def posT (ft : Nat → Nat → Bool) (k : Nat) : Int32 := orR (fun r => if posB ft k r then bit1 r else 0) 0 8
def posN (ft : Nat → Nat → Bool) (k : Nat) : Nat := orN (posB ft k) 0 8
theorem pos_e (ft : Nat → Nat → Bool) (k : Nat) : posT ft k = nI (posN ft k) ∧ posN ft k < 256 := ⟨orR_N 8 0 (by decide) (fun _ _ _ => rfl), orN_lt _ 8 0 (by decide)⟩
theorem nI_le0 {x : Nat} (h : x < 2 ^ 31) : nI x ≤ 0 ↔ x = 0 := by
  rw [show (0 : Int32) = nI 0 from rfl, nI_leI h (by decide)]
  omega
/-- the class's rows of ways stand in the world -/
def wysC (w : Wd) (ft : Nat → Nat → Bool) : Prop := ∀ k r, k < 6 → r < 8 → gI w 80 (k * 8 + r) = nI (Vw ft k r) ∧ gI w 81 (k * 8 + r) = nI (Ww ft (5 - k) r)
theorem V31 (ft : Nat → Nat → Bool) {k : Nat} (hk : k < 6) (r : Nat) : Vw ft k r < 2 ^ 31 := Nat.lt_of_le_of_lt (Nat.le_trans (Vw_le ft k r) (p8 (by omega))) (by decide)
theorem W31 (ft : Nat → Nat → Bool) {k : Nat} (hk : k < 6) (r : Nat) : Ww ft k r < 2 ^ 31 := Nat.lt_of_le_of_lt (Nat.le_trans (Ww_le ft k r) (p8 (by omega))) (by decide)
theorem v_X3_possible {F : Nat} (hF : 100 ≤ F) {w : Wd} {ft : Nat → Nat → Bool} (h : wysC w ft) (k : Nat) (hk : k < 6) : P_X3_possible F w (nI k) = some (posT ft k, w) := by
  unfold P_X3_possible
  obtain ⟨w2, e1, e2⟩ := lpG (fun n w (s : Int32) i => L_X3_possible_4 F (nI k) (fun w x4 => some (x4, w)) n w s i) (fun w s => some (s, w)) (fun r x => x ||| (if posB ft k r then bit1 r else 0)) (fun u _ _ => u = w) 8
    (fun n u s hI => by
      show L_X3_possible_4 F (nI k) _ (n + 1) u _ _ = _
      rw [L_X3_possible_4, if_pos (show (8 : Int32) ≤ nI 8 from Int32.le_refl _)])
    (fun n u s r hr hI => by
      subst hI
      obtain ⟨h1, h2⟩ := h k r hk hr
      show ∃ w2, L_X3_possible_4 F (nI k) _ (n + 1) u _ _ = L_X3_possible_4 F (nI k) _ n w2 _ _ ∧ _
      rw [L_X3_possible_4, if_neg (n8gt hr), bnd_r (v_X3_waysOf F u (.inl rfl) k r hk hr), h1]
      unfold K_X3_possible_40 posB
      refine ⟨u, ?_, rfl⟩
      by_cases c1 : Vw ft k r = 0
      · rw [if_pos ((nI_le0 (V31 ft hk r)).mpr c1), lt_v, nI_1, decide_eq_false (show ¬ 0 < Vw ft k r by omega), Bool.false_and]
        show _ = L_X3_possible_4 F (nI k) _ n u (s ||| 0) _
        rw [or0]
      · rw [if_neg (fun q => c1 ((nI_le0 (V31 ft hk r)).mp q)), bnd_r (v_X3_waysOf F u (.inr rfl) k r hk hr), h2, decide_eq_true (show 0 < Vw ft k r by omega), Bool.true_and]
        by_cases c2 : Ww ft (5 - k) r = 0
        · rw [if_pos ((nI_le0 (W31 ft (by omega) r)).mpr c2), lt_v, nI_1, decide_eq_false (show ¬ 0 < Ww ft (5 - k) r by omega)]
          show _ = L_X3_possible_4 F (nI k) _ n u (s ||| 0) _
          rw [or0]
        · rw [if_neg (fun q => c2 ((nI_le0 (W31 ft (by omega) r)).mp q)), decide_eq_true (show 0 < Ww ft (5 - k) r by omega), lt_v, lt_v, nI_1]
          rfl)
    8 0 (by omega) F (by omega) w 0 rfl
  subst e2
  refine (show L_X3_possible_4 F (nI k) _ F w2 0 0 = _ from e1).trans ?_
  rw [orF, zor]
  rfl
/-- the least that can be in a shift behind one -/
def lsX (ft : Nat → Nat → Bool) (k : Nat) (last : Int32) (r : Nat) (_ : Unit) : Sum Nat Unit := if nI r = last then .inr () else if Ww ft (5 - k) r = 0 then .inr () else .inl r
def lsT (ft : Nat → Nat → Bool) (k : Nat) (last : Int32) : Sum Nat Unit := foldX (lsX ft k last) 8 0 ()
def lsV (x : Sum Nat Unit) : Int32 := match x with
  | .inl r => nI r
  | .inr _ => -1
theorem v_X3_least {F : Nat} (hF : 100 ≤ F) {w : Wd} {ft : Nat → Nat → Bool} (h : wysC w ft) (k : Nat) (hk : k < 6) (last : Int32) : P_X3_leastBehind F w (nI k) last = some (lsV (lsT ft k last), w) := by
  unfold P_X3_leastBehind lsT
  rcases lpX (fun m w (_ : Unit) i => L_X3_leastBehind_2 F (nI k) last (fun w  => some ((-1), w)) m w i) (fun w _ => some (-1, w)) (fun u (r : Nat) => some (nI r, u)) (lsX ft k last) (fun u _ _ => u = w) (fun u _ => u = w) 8
    (fun m u s hI => by
      show L_X3_leastBehind_2 F (nI k) last _ (m + 1) u _ = _
      rw [L_X3_leastBehind_2, if_pos (show (8 : Int32) ≤ nI 8 from Int32.le_refl _)])
    (fun m u s r hr hI => by
      subst hI
      obtain ⟨h1, h2⟩ := h k r hk hr
      show (∃ w2 t, _ ∧ L_X3_leastBehind_2 F (nI k) last _ (m + 1) u _ = L_X3_leastBehind_2 F (nI k) last _ m w2 _ ∧ _) ∨ (∃ w2 o, _ ∧ L_X3_leastBehind_2 F (nI k) last _ (m + 1) u _ = _ ∧ _)
      rw [L_X3_leastBehind_2, if_neg (n8gt hr)]
      unfold lsX K_X3_leastBehind_27
      rw [lt_v, nI_1]
      by_cases c1 : nI r = last
      · rw [if_pos c1, if_pos c1]; exact .inl ⟨u, (), rfl, rfl, rfl⟩
      · rw [if_neg c1, if_neg c1, bnd_r (v_X3_waysOf F u (.inr rfl) k r hk hr), h2]
        by_cases c2 : Ww ft (5 - k) r = 0
        · rw [if_pos c2, if_pos ((nI_le0 (W31 ft (by omega) r)).mpr c2)]; exact .inl ⟨u, (), rfl, rfl, rfl⟩
        · rw [if_neg c2, if_neg (fun q => c2 ((nI_le0 (W31 ft (by omega) r)).mp q))]; exact .inr ⟨u, r, rfl, rfl, rfl⟩)
    8 0 (by omega) F (by omega) w () rfl with ⟨w2, t, e1, e2, e3⟩ | ⟨w2, o, e1, e2, e3⟩
  · rw [e1, show L_X3_leastBehind_2 F (nI k) last _ F w 0 = _ from e2, e3]; rfl
  · rw [e1, show L_X3_leastBehind_2 F (nI k) last _ F w 0 = _ from e2, e3]; rfl
def ttl (ft : Nat → Nat → Bool) : Nat := sumN (Ww ft 5) 0 8
theorem ttl_lt (ft : Nat → Nat → Bool) : ttl ft < 2 ^ 31 := by
  have := sumN_le (g := Ww ft 5) (B := 32768) 8 0 (fun i _ _ => Ww_le ft 5 i)
  unfold ttl
  omega
theorem v_X3_total {F : Nat} (hF : 100 ≤ F) {w : Wd} {ft : Nat → Nat → Bool} (h : wysC w ft) : P_X3_total F w = some (nI (ttl ft), w) := by
  unfold P_X3_total
  rw [bnd_r (show P_X3_sum F w 81 0 = _ from v_X3_sum hF w (.inr rfl) 0 (by decide) (Ww ft 5) (fun r hr => by have := (h 0 r (by decide) hr).2; exact this))]
  rfl
def rwV (ft : Nat → Nat → Bool) : Nat → Int32
  | 0 => -1
  | k + 1 => lsV (lsT ft k (rwV ft k))
def rwL (ft : Nat → Nat → Bool) : Nat → List Int64
  | 0 => []
  | k + 1 => rwL ft k ++ [i64 (rwV ft (k + 1))]
theorem rwL_len (ft : Nat → Nat → Bool) : ∀ n, (rwL ft n).length = n := by
  intro n
  induction n with
  | zero => rfl
  | succ n ih => show (rwL ft n ++ [_]).length = _; rw [List.length_append, ih]; rfl
def qRows (ft : Nat → Nat → Bool) : Ans := (nI (ttl ft), some (if ttl ft = 0 then [] else rwL ft 6))
theorem NQ_QP {b : Nat} (h : NQ b) : QP b := by
  unfold NQ at h
  rcases h with h | h | h
  · exact SP_QP h
  · unfold QP; omega
  · unfold QP; omega
theorem NQ_n {b : Nat} (h : NQ b) : QP b ∧ b ≠ 3 ∧ b ≠ 4 := ⟨NQ_QP h, by unfold NQ SP Scr at h; omega, by unfold NQ SP Scr at h; omega⟩
theorem wysC_fr {q : Nat → Prop} {w w2 : Wd} {ft : Nat → Nat → Bool} (h : wysC w ft) (f : Fr q w w2) (h80 : ¬ q 80) (h81 : ¬ q 81) : wysC w2 ft := fun k r hk hr => by
  rw [(f 80 h80).1, (f 81 h81).1]; exact h k r hk hr
/-- the class's ground for the night -/
def ftC (w : Wd) (R c : Nat) (f : Nf) : Nat → Nat → Bool := ftT (tC w 5) (bC w 23) R c f
theorem v_X10_rows {F : Nat} (hF : 2000 ≤ F) {w : Wd} (s : St w) {R : Nat} (hR : R ≤ 8) (eR : gI w 6 2 = nI R) {c : Nat} {f : Nf} (hn : NtC w c f) : AskC (P_X10_rows F w) (qRows (ftT (tC w 5) (bC w 23) R c f)) w := by
  obtain ⟨w1, a1, a2, a3⟩ := v_X10_countRows hF s hR eR hn
  generalize ftT (tC w 5) (bC w 23) R c f = ft at *
  obtain ⟨w2, b1, b2, b3⟩ := v_X7_clear F w1
  have h2 : wysC w2 ft := wysC_fr a3 b2 (by omega) (by omega)
  unfold P_X10_rows qRows
  rw [bnv_r a1, bnv_r b1, bnd_r (v_X3_total (by omega) h2)]
  by_cases c0 : ttl ft = 0
  · rw [if_pos ((nI_le0 (ttl_lt ft)).mpr c0), if_pos c0]
    unfold K_X10_rows_56
    rw [bnd_r (v_X3_total (by omega) h2)]
    exact ask_t (a2.imp (fun b h => NQ_QP h)) b2 b3
  · rw [if_neg (fun q => c0 ((nI_le0 (ttl_lt ft)).mp q)), if_neg c0]
    have key : ∀ m j, j + m = 6 → ∀ n, m < n → ∀ v, Fr (fun b => b = 3 ∨ b = 4) w1 v → Tl v (rwL ft j) → ∃ v2, L_X10_rows_25 F (fun w  => K_X10_rows_56 F w) n v (rwV ft j) (nI j) = some (nI (ttl ft), v2) ∧ Fr (fun b => b = 3 ∨ b = 4) w1 v2 ∧ Tl v2 (rwL ft 6) := by
      intro m
      induction m with
      | zero =>
        intro j hj n hn v h1 h3
        obtain ⟨n, rfl⟩ : ∃ q, n = q + 1 := ⟨n - 1, by omega⟩
        obtain rfl : j = 6 := by omega
        rw [L_X10_rows_25, if_pos (show (6 : Int32) ≤ nI 6 from Int32.le_refl _)]
        unfold K_X10_rows_56
        rw [bnd_r (v_X3_total (by omega) (wysC_fr a3 h1 (by omega) (by omega)))]
        exact ⟨v, rfl, h1, h3⟩
      | succ m ih =>
        intro j hj n hn v h1 h3
        obtain ⟨n, rfl⟩ : ∃ q, n = q + 1 := ⟨n - 1, by omega⟩
        rw [L_X10_rows_25, if_neg (show ¬ (6 : Int32) ≤ nI j from nI_ge (a := j) (b := 6) (by omega) (by decide)), bnd_r (v_X3_least (by omega) (wysC_fr a3 h1 (by omega) (by omega)) j (by omega) _)]
        obtain ⟨v2, d1, d2, d3⟩ := v_X7_add F v (rwL ft j) h3 (by rw [rwL_len]; omega) (i64 (rwV ft (j + 1)))
        rw [bnv_r (show P_X7_add F v (Int32.toInt64 (lsV (lsT ft j (rwV ft j)))) = _ from d1), lt_v, nI_1]
        exact ih (j + 1) (by omega) n (by omega) v2 (h1.tr d2 (fun _ h => h) (fun _ h => h)) d3
    obtain ⟨v2, e1, e2, e3⟩ := key 6 0 rfl F (by omega) w2 b2 b3
    rw [show L_X10_rows_25 F _ F w2 (-1) 0 = _ from e1]
    exact ask_t (a2.imp (fun b h => NQ_QP h)) e2 e3
def qRang (ft : Nat → Nat → Bool) (x : Int32) : Ans := qR x 0 5 (posT ft x.toNatClampNeg, some [i64 (bc (posT ft x.toNatClampNeg))])
theorem lt6 (x : Int32) : x < 6 ↔ x ≤ 5 := by
  rw [Int32.lt_iff_toInt_lt, Int32.le_iff_toInt_le]
  have e1 : (6 : Int32).toInt = 6 := by decide
  have e2 : (5 : Int32).toInt = 5 := by decide
  omega
theorem v_X10_rang {F : Nat} (hF : 2000 ≤ F) {w : Wd} (s : St w) {R : Nat} (hR : R ≤ 8) (eR : gI w 6 2 = nI R) {c : Nat} {f : Nf} (hn : NtC w c f) (x : Int32) : AskC (P_X10_rang F w x) (qRang (ftT (tC w 5) (bC w 23) R c f) x) w := by
  unfold P_X10_rang qRang qR
  refine askC_if (fun _ => ask_n (p := SP) Fr.rfl' (fun b h => SP_n h)) (fun h1 => ?_)
  by_cases h2 : x ≤ 5
  · rw [if_pos ((lt6 x).mpr h2), if_pos h2]
    obtain ⟨k, hk1, hk2, rfl⟩ := rng h1 h2 (A := 0) (B := 5)
    rw [nI_clamp (by omega)]
    obtain ⟨w1, a1, a2, a3⟩ := v_X10_countRows hF s hR eR hn
    rw [bnv_r a1, bnd_r (v_X3_possible (by omega) a3 k (by omega)), bnd_r (v_bc F w1 _)]
    obtain ⟨w2, b1, b2, b3⟩ := v_X10_tell F w1 (Int32.toInt64 (bc (posT (ftT (tC w 5) (bC w 23) R c f) k)))
    rw [bnv_r b1]
    exact ask_t (a2.imp (fun b h => NQ_QP h)) b2 b3
  · rw [if_neg (fun q => h2 ((lt6 x).mp q)), if_neg h2]
    exact ask_n (p := SP) Fr.rfl' (fun b h => SP_n h)
abbrev Ak : Type := Option (Nat × Nat)
def akM (o : Ak) : Nat := match o with | none => 0 | some q => q.1
def akB (o : Ak) : Int32 := match o with | none => -2 | some q => nI q.2
def akp (ft : Nat → Nat → Bool) (k : Nat) (o : Ak) : Ak := if pc (posN ft k) ≤ akM o then o else some (pc (posN ft k), k)
def qAsk (ft : Nat → Nat → Bool) : Ans := match foldU (akp ft) 6 0 none with
  | none => (-2, none)
  | some q => (nI q.2, some [i64 (nI q.1)])
def akO (o : Ak) : Prop := ∀ q, o = some q → q.1 ≤ 8 ∧ q.2 < 6
theorem akM_le {o : Ak} (h : akO o) : akM o ≤ 8 := by
  cases o with
  | none => exact Nat.zero_le _
  | some q => exact (h q rfl).1
theorem akp_ok {ft : Nat → Nat → Bool} {k : Nat} (hk : k < 6) {o : Ak} (h : akO o) : akO (akp ft k o) := by
  unfold akp
  split
  · exact h
  · intro q hq; cases hq; exact ⟨pc_le (pos_e ft k).2, hk⟩
theorem v_X10_ask {F : Nat} (hF : 2000 ≤ F) {w : Wd} (s : St w) {R : Nat} (hR : R ≤ 8) (eR : gI w 6 2 = nI R) {c : Nat} {f : Nf} (hn : NtC w c f) : AskC (P_X10_ask F w) (qAsk (ftT (tC w 5) (bC w 23) R c f)) w := by
  obtain ⟨w1, a1, a2, a3⟩ := v_X10_countRows hF s hR eR hn
  generalize ftT (tC w 5) (bC w 23) R c f = ft at *
  unfold P_X10_ask qAsk
  rw [bnv_r a1]
  obtain ⟨w2, e1, e2, e3⟩ := lpG (fun n w (o : Ak) i => L_X10_ask_11 F (fun w x5 x6 => (if x5 < 0 then some (x5, w) else bnv (P_X10_tell F w (Int32.toInt64 x6)) (fun w18 => some (x5, w18)))) n w (akB o) (nI (akM o)) i) (fun w o => (if akB o < 0 then some (akB o, w) else bnv (P_X10_tell F w (Int32.toInt64 (nI (akM o)))) (fun w18 => some (akB o, w18)))) (akp ft) (fun u o _ => u = w1 ∧ akO o) 6
    (fun n u o hI => by
      show L_X10_ask_11 F _ (n + 1) u _ _ _ = _
      rw [L_X10_ask_11, if_pos (show (6 : Int32) ≤ nI 6 from Int32.le_refl _)])
    (fun n u o k hk hI => by
      obtain ⟨rfl, h2⟩ := hI
      show ∃ w2, L_X10_ask_11 F _ (n + 1) u _ _ _ = L_X10_ask_11 F _ n w2 _ _ _ ∧ _
      obtain ⟨p1, p2⟩ := pos_e ft k
      have p3 := pc_le p2
      have p4 := akM_le h2
      rw [L_X10_ask_11, if_neg (show ¬ (6 : Int32) ≤ nI k from nI_ge (a := k) (b := 6) (by omega) (by decide)), bnd_r (v_X3_possible (by omega) a3 k hk), bnd_r (v_bc F u _), p1, bc_pc p2]
      unfold K_X10_ask_41
      rw [lt_v, lt_v, nI_1]
      refine ⟨u, ?_, rfl, akp_ok hk h2⟩
      unfold akp
      by_cases c1 : pc (posN ft k) ≤ akM o
      · rw [if_pos (nI_le c1 (by omega)), if_pos c1]
      · rw [if_neg (nI_ge (by omega) (by omega)), if_neg c1]; rfl)
    6 0 (by omega) F (by omega) w1 none ⟨rfl, fun q hq => by cases hq⟩
  subst e2
  rw [show L_X10_ask_11 F _ F w2 (-2) 0 0 = _ from e1]
  generalize foldU (akp ft) 6 0 none = o at *
  cases o with
  | none =>
    rw [if_pos (show akB none < 0 from (by decide : (-2 : Int32) < 0))]
    exact ask_n a2 (fun b h => NQ_n h)
  | some q =>
    have hq := (e3 q rfl).2
    rw [if_neg (show ¬ akB (some q) < 0 from nI_pos (by omega))]
    obtain ⟨w3, b1, b2, b3⟩ := v_X10_tell F w2 (Int32.toInt64 (nI (akM (some q))))
    rw [bnv_r b1]
    exact ask_t (a2.imp (fun b h => NQ_QP h)) b2 b3
-- ===== the model's night =====
theorem NtM_fr {q : Nat → Nat → Prop} {w w2 : Wd} {c : Nat} {f : Nf} (h : NtM w c f) (fr : Fm q w w2) (hq : ∀ a k, q a k → ¬ ((a = 88 ∧ k = 37) ∨ (111 ≤ a ∧ a ≤ 113))) : NtM w2 c f := by
  obtain ⟨h1, h2, h3⟩ := h
  have g : ∀ a k, ((a = 88 ∧ k = 37) ∨ (111 ≤ a ∧ a ≤ 113)) → gI w2 a k = gI w a k := fun a k x => (fr a k (fun h => hq a k h x)).1
  exact ⟨by rw [g 88 37 (by omega)]; exact h1, h2, fun i hi => by rw [g 111 i (by omega), g 112 i (by omega), g 113 i (by omega)]; exact h3 i hi⟩
theorem NtM_QN {w w2 : Wd} {c : Nat} {f : Nf} (h : NtM w c f) (fr : Fm QN w w2) : NtM w2 c f := NtM_fr h fr (fun a k h => by unfold QN at h; omega)
theorem v_X11_fits {F : Nat} (hF : 2000 ≤ F) {w : Wd} {T : Tw} {b : Bl} {r p N : Nat} (g : MG w T b r p N) {c : Nat} {f : Nf} (hn : NtM w c f) (hok : okNf c f) (k q : Nat) : ∃ w2, P_X11_fits F w (nI k) (nI q) = some (bI (fitB c f k (loudV T b (bit1 q) 0)), w2) ∧ Fm Sc w w2 := by
  obtain ⟨w1, a1, a2⟩ := v_X11_loudBy (F := F) (by omega) g.1 g.2.1 (a := 95) (.inl rfl) (bit1 q) 0
  rw [g.2.2.1] at a1
  unfold P_X11_fits
  rw [bnd_r (show P_X11_loudBy F w 95 (ishlI 1 (nI q)) 0 = _ from a1)]
  obtain ⟨h1, h2, h3⟩ := NtM_QN hn (a2.imp (fun _ _ h => Sc_QN h))
  generalize loudV T b (bit1 q) 0 = x
  refine ⟨w1, ?_, a2⟩
  have key : ∀ m j, j + m = c → ∀ n, m < n → L_X11_fits_19 F (nI k) (nI q) x (fun w x8 => gd (isZO x8) (some (x8, w))) n w1 0 (nI j) = some (0, w1) ∧ L_X11_fits_19 F (nI k) (nI q) x (fun w x8 => gd (isZO x8) (some (x8, w))) n w1 1 (nI j) = some (bI (isR (foldX (fitX f k x) m j ())), w1) := by
    intro m
    induction m with
    | zero =>
      intro j hj n hn
      obtain ⟨n, rfl⟩ : ∃ q, n = q + 1 := ⟨n - 1, by omega⟩
      obtain rfl : j = c := by omega
      rw [L_X11_fits_19, L_X11_fits_19, h1, if_pos (Int32.le_refl _), if_pos (Int32.le_refl _)]
      exact ⟨rfl, rfl⟩
    | succ m ih =>
      intro j hj n hn
      obtain ⟨n, rfl⟩ : ∃ q, n = q + 1 := ⟨n - 1, by omega⟩
      obtain ⟨i1, i2⟩ := ih (j + 1) (by omega) n (by omega)
      obtain ⟨q1, q2, q3⟩ := h3 j (by omega)
      have hc : ¬ nI c ≤ nI j := nI_ge (by omega) (by omega)
      refine ⟨?_, ?_⟩
      · rw [L_X11_fits_19, h1, if_neg hc, if_pos rfl]
        unfold K_X11_fits_77 K_X11_fits_78
        rw [lt_v, nI_1]
        exact i1
      · rw [L_X11_fits_19, h1, if_neg hc, if_neg (show ¬ (1 : Int32) = 0 by decide), gd_t (inB_n (show j < 12 by omega) (by omega)), nI_clamp (by omega), q1]
        by_cases c1 : f 0 j = nI k
        · rw [if_pos c1, gd_t (inB_n (show j < 12 by omega) (by omega)), q2, lt_v, bnd_r (v_X11_flag F w1 _), gd_t (inB_n (show j < 12 by omega) (by omega)), q3, lt_v, lt_v, nI_1]
          have e2 : (if f 2 j = 1 then (1 : Int32) else 0) = f 2 j := by rcases hok j (by omega) with h | h <;> rw [h] <;> rfl
          have e3 : (if (if x < f 1 j then (0 : Int32) else 1) = 0 then (0 : Int32) else 1) = (if x < f 1 j then 0 else 1) := by split <;> rfl
          rw [e3]
          by_cases c2 : (if x < f 1 j then (0 : Int32) else 1) = f 2 j
          · have e : foldX (fitX f k x) (m + 1) j () = foldX (fitX f k x) m (j + 1) () := by rw [foldX]; unfold fitX; simp only [if_pos c1, e2, if_pos c2]
            rw [if_pos c2, e]
            exact i2
          · have e : foldX (fitX f k x) (m + 1) j () = .inl () := by rw [foldX]; unfold fitX; simp only [if_pos c1, e2, if_neg c2]
            rw [if_neg c2, e]
            exact i1
        · have e : foldX (fitX f k x) (m + 1) j () = foldX (fitX f k x) m (j + 1) () := by rw [foldX]; unfold fitX; simp only [if_neg c1]
          rw [if_neg c1, e]
          unfold K_X11_fits_73 K_X11_fits_78
          rw [lt_v, nI_1]
          exact i2
  exact (key c 0 (by omega) F (by omega)).2
theorem v_X11_noted {F : Nat} {w : Wd} {c : Nat} {f : Nf} (hn : NtM w c f) (x y z : Int32) : ∃ w2, P_X11_noted F w x y z = some ((if x < 0 ∨ 5 < x ∨ y < -999 ∨ 9999 < y ∨ z < 0 ∨ 1 < z ∨ c = 12 then -1 else nI (c + 1)), w2) ∧ Fm (fun a k => (a = 88 ∧ (k = 0 ∨ k = 37)) ∨ (111 ≤ a ∧ a ≤ 113)) w w2 ∧ (if x < 0 ∨ 5 < x ∨ y < -999 ∨ 9999 < y ∨ z < 0 ∨ 1 < z ∨ c = 12 then NtM w2 c f else NtM w2 (c + 1) (fun l i => if i = c then (if l = 0 then x else if l = 1 then y else z) else f l i)) := by
  obtain ⟨h1, h2, h3⟩ := hn
  have f0 : Fm (fun a k => (a = 88 ∧ (k = 0 ∨ k = 37)) ∨ (111 ≤ a ∧ a ≤ 113)) w (sI w 88 0 0) := Fm.rfl'.sI (by omega)
  have n0 : NtM (sI w 88 0 0) c f := NtM_fr ⟨h1, h2, h3⟩ (show Fm (fun a k => a = 88 ∧ k = 0) w _ from Fm.rfl'.sI ⟨rfl, rfl⟩) (fun a k h => by omega)
  have bad : ∀ hq : (x < 0 ∨ 5 < x ∨ y < -999 ∨ 9999 < y ∨ z < 0 ∨ 1 < z ∨ c = 12), ∃ w2, some ((-1 : Int32), sI w 88 0 0) = some ((if x < 0 ∨ 5 < x ∨ y < -999 ∨ 9999 < y ∨ z < 0 ∨ 1 < z ∨ c = 12 then -1 else nI (c + 1)), w2) ∧ Fm (fun a k => (a = 88 ∧ (k = 0 ∨ k = 37)) ∨ (111 ≤ a ∧ a ≤ 113)) w w2 ∧ (if x < 0 ∨ 5 < x ∨ y < -999 ∨ 9999 < y ∨ z < 0 ∨ 1 < z ∨ c = 12 then NtM w2 c f else NtM w2 (c + 1) (fun l i => if i = c then (if l = 0 then x else if l = 1 then y else z) else f l i)) := fun hq => ⟨sI w 88 0 0, by rw [if_pos hq], f0, by rw [if_pos hq]; exact n0⟩
  unfold P_X11_noted
  rw [lt_v, in_r F _ x 0 5]
  by_cases c1 : x < 0
  · rw [if_pos c1]; exact bad (.inl c1)
  rw [if_neg c1]
  by_cases c2 : x ≤ 5
  · rw [if_pos c2, in_r F _ y (-999) 9999]
    by_cases c3 : y < -999
    · rw [if_pos c3]; exact bad (.inr (.inr (.inl c3)))
    rw [if_neg c3]
    by_cases c4 : y ≤ 9999
    · rw [if_pos c4, in_r F _ z 0 1]
      by_cases c5 : z < 0
      · rw [if_pos c5]; exact bad (.inr (.inr (.inr (.inr (.inl c5)))))
      rw [if_neg c5]
      by_cases c6 : z ≤ 1
      · rw [if_pos c6, n0.1]
        by_cases c7 : c = 12
        · subst c7
          rw [if_pos (show nI 12 = 12 from rfl)]; exact bad (.inr (.inr (.inr (.inr (.inr (.inr rfl))))))
        · have hno : ¬ (x < 0 ∨ 5 < x ∨ y < -999 ∨ 9999 < y ∨ z < 0 ∨ 1 < z ∨ c = 12) := by
            rintro (h | h | h | h | h | h | h)
            · exact c1 h
            · exact absurd c2 (Int32.not_le.mpr h)
            · exact c3 h
            · exact absurd c4 (Int32.not_le.mpr h)
            · exact c5 h
            · exact absurd c6 (Int32.not_le.mpr h)
            · exact c7 h
          rw [if_neg (show ¬ nI c = 12 from fun e => c7 ((nI_eq (a := c) (b := 12) (by omega) (by decide)).mp e)), if_neg hno, gd_t (inB_n (show c < 12 by omega) (by omega)), lt_v]
          have e1 : gI (sI (sI w 88 0 0) 111 c x) 88 37 = nI c := by rw [gIa (by decide)]; exact n0.1
          have e2 : gI (sI (sI (sI w 88 0 0) 111 c x) 112 c y) 88 37 = nI c := by rw [gIa (by decide)]; exact e1
          have e3 : gI (sI (sI (sI (sI w 88 0 0) 111 c x) 112 c y) 113 c z) 88 37 = nI c := by rw [gIa (by decide)]; exact e2
          rw [nI_clamp (by omega), e1, gd_t (inB_n (show c < 12 by omega) (by omega)), lt_v, nI_clamp (by omega), e2, gd_t (inB_n (show c < 12 by omega) (by omega)), lt_v, nI_clamp (by omega), e3, lt_v, gIs, nI_1]
          refine ⟨_, rfl, (((f0.sI (by omega)).sI (by omega)).sI (by omega)).sI (by omega), ?_⟩
          rw [if_neg hno]
          refine ⟨gIs, by omega, fun i hi => ?_⟩
          by_cases hic : i = c
          · subst hic
            simp only [gI_sI, if_true]
            exact ⟨rfl, rfl, rfl⟩
          · have := h3 i (by omega)
            simp only [if_neg hic]
            rw [gIa (by decide), gIa (by decide), gIa (by decide), gIk hic, gIa (by decide), gIa (by decide), gIa (by decide), gIk hic, gIa (by decide), gIa (by decide), gIa (by decide), gIk hic, gIa (by decide), gIa (by decide), gIa (by decide)]
            exact this
      · rw [if_neg c6]; exact bad (.inr (.inr (.inr (.inr (.inr (.inl (Int32.not_le.mp c6)))))))
    · rw [if_neg c4]; exact bad (.inr (.inr (.inr (.inl (Int32.not_le.mp c4)))))
  · rw [if_neg c2]; exact bad (.inr (.inl (Int32.not_le.mp c2)))
