-- ===== who doubts in the end: sets as numbers =====
theorem nI_or (a b : Nat) : nI (a ||| b) = nI a ||| nI b := Int32.toBitVec_inj.1 (BitVec.ofNat_or)
theorem nI_and (a b : Nat) : nI (a &&& b) = nI a &&& nI b := Int32.toBitVec_inj.1 (BitVec.ofNat_and)
/-- a set without one -/
def clr (s i : Nat) : Nat := if s.testBit i then s - 2 ^ i else s
def pc (s : Nat) : Nat := (bc (nI s)).toNatClampNeg
theorem bc_pc {s : Nat} (h : s < 256) : bc (nI s) = nI (pc s) := by
  obtain ⟨⟨c, h1, h2⟩, -⟩ := bc_all s h
  unfold pc
  rw [h2, nI_clamp (by omega)]
theorem pc_le {s : Nat} (h : s < 256) : pc s ≤ 8 := by
  obtain ⟨⟨c, h1, h2⟩, -⟩ := bc_all s h
  unfold pc
  rw [h2, nI_clamp (by omega)]
  exact h1
theorem clr_e : ∀ s : Nat, s < 256 → ∀ i : Nat, i < 8 → nI s &&& (bit1 i ^^^ (-1)) = nI (clr s i) ∧ clr s i < 256 := by decide +kernel
def b01 (b : Bool) : Nat := if b then 1 else 0
theorem pc_sum : ∀ s : Nat, s < 256 → pc s = b01 (s.testBit 0) + b01 (s.testBit 1) + b01 (s.testBit 2) + b01 (s.testBit 3) + b01 (s.testBit 4) + b01 (s.testBit 5) + b01 (s.testBit 6) + b01 (s.testBit 7) := by decide +kernel
theorem clr_bit : ∀ s : Nat, s < 256 → ∀ i : Nat, i < 8 → ∀ k : Nat, k < 8 → (clr s i).testBit k = (s.testBit k && decide (¬ k = i)) := by decide +kernel
/-- one set within another -/
def sub8 (s t : Nat) : Prop := ∀ k, k < 8 → s.testBit k = true → t.testBit k = true
theorem b01_le {x y : Bool} (h : x = true → y = true) : b01 x ≤ b01 y := by
  unfold b01
  cases x
  · exact Nat.zero_le _
  · rw [h rfl]; exact Nat.le_refl _
theorem pc_mono {s t : Nat} (hs : s < 256) (ht : t < 256) (h : sub8 s t) : pc s ≤ pc t := by
  rw [pc_sum s hs, pc_sum t ht]
  have a0 := b01_le (h 0 (by decide))
  have a1 := b01_le (h 1 (by decide))
  have a2 := b01_le (h 2 (by decide))
  have a3 := b01_le (h 3 (by decide))
  have a4 := b01_le (h 4 (by decide))
  have a5 := b01_le (h 5 (by decide))
  have a6 := b01_le (h 6 (by decide))
  have a7 := b01_le (h 7 (by decide))
  omega
theorem bit_ext {s t : Nat} (hs : s < 256) (ht : t < 256) (h : ∀ k, k < 8 → s.testBit k = t.testBit k) : s = t := by
  apply Nat.eq_of_testBit_eq
  intro i
  by_cases hi : i < 8
  · exact h i hi
  · rw [Nat.testBit_lt_two_pow (Nat.lt_of_lt_of_le hs (show 256 ≤ 2 ^ i from Nat.pow_le_pow_right (n := 2) (by decide) (show 8 ≤ i by omega))), Nat.testBit_lt_two_pow (Nat.lt_of_lt_of_le ht (show 256 ≤ 2 ^ i from Nat.pow_le_pow_right (n := 2) (by decide) (show 8 ≤ i by omega)))]
theorem sub_eq {s t : Nat} (hs : s < 256) (ht : t < 256) (h1 : sub8 s t) (h2 : sub8 t s) : s = t := bit_ext hs ht (fun k hk => by
  cases e : s.testBit k
  · cases e2 : t.testBit k
    · rfl
    · rw [h2 k hk e2] at e; cases e
  · exact (h1 k hk e).symm)
theorem pc_lt {s t : Nat} (hs : s < 256) (ht : t < 256) (h : sub8 s t) (hne : s ≠ t) : pc s < pc t := by
  rcases Nat.lt_or_ge (pc s) (pc t) with h1 | h1
  · exact h1
  · exfalso
    apply hne
    rw [pc_sum s hs, pc_sum t ht] at h1
    refine bit_ext hs ht (fun k hk => ?_)
    have a0 := b01_le (h 0 (by decide))
    have a1 := b01_le (h 1 (by decide))
    have a2 := b01_le (h 2 (by decide))
    have a3 := b01_le (h 3 (by decide))
    have a4 := b01_le (h 4 (by decide))
    have a5 := b01_le (h 5 (by decide))
    have a6 := b01_le (h 6 (by decide))
    have a7 := b01_le (h 7 (by decide))
    have key : b01 (s.testBit k) = b01 (t.testBit k) := by
      rcases (show k = 0 ∨ k = 1 ∨ k = 2 ∨ k = 3 ∨ k = 4 ∨ k = 5 ∨ k = 6 ∨ k = 7 by omega) with rfl | rfl | rfl | rfl | rfl | rfl | rfl | rfl <;> omega
    revert key
    cases s.testBit k <;> cases t.testBit k <;> intro key
    · rfl
    · exact absurd key (by decide)
    · exact absurd key (by decide)
    · rfl
theorem or_256 {a b : Nat} (ha : a < 256) (hb : b < 256) : a ||| b < 256 := Nat.or_lt_two_pow (n := 8) ha hb
theorem sub_or {a b : Nat} : sub8 a (a ||| b) := fun k _ h => by rw [Nat.testBit_or, h]; rfl
-- who is moved, as a number
def cnb (nd : Nat → Nat) (s i : Nat) : Bool := decide (¬ nd i = 0) && decide (nd i ≤ pc (clr s i))
theorem cnb_mono {nd : Nat → Nat} {s t i : Nat} (hs : s < 256) (ht : t < 256) (hi : i < 8) (h : sub8 s t) (hc : cnb nd s i = true) : cnb nd t i = true := by
  unfold cnb at hc ⊢
  rw [Bool.and_eq_true, decide_eq_true_eq, decide_eq_true_eq] at hc ⊢
  refine ⟨hc.1, Nat.le_trans hc.2 (pc_mono (clr_e s hs i hi).2 (clr_e t ht i hi).2 (fun k hk hb => ?_))⟩
  rw [clr_bit s hs i hi k hk, Bool.and_eq_true] at hb
  rw [clr_bit t ht i hi k hk, Bool.and_eq_true]
  exact ⟨h k hk hb.1, hb.2⟩
/-- nobody else is moved -/
def clsd (nd : Nat → Nat) (s : Nat) : Prop := ∀ i, i < 8 → cnb nd s i = true → s.testBit i = true
/-- bits of those of so many, from one on, for whom it holds -/
def orN (f : Nat → Bool) : Nat → Nat → Nat
  | _, 0 => 0
  | j, m + 1 => (if f j then 2 ^ j else 0) ||| orN f (j + 1) m
theorem orN_lt (f : Nat → Bool) : ∀ m j, j + m ≤ 8 → orN f j m < 256 := by
  intro m
  induction m with
  | zero => intro j _; exact (by decide : 0 < 256)
  | succ m ih =>
    intro j hj
    refine or_256 ?_ (ih (j + 1) (by omega))
    split
    · exact Nat.pow_lt_pow_right (n := 8) (by decide) (show j < 8 by omega)
    · decide
theorem orN_bit (f : Nat → Bool) : ∀ m j k, (orN f j m).testBit k = (f k && decide (j ≤ k ∧ k < j + m)) := by
  intro m
  induction m with
  | zero =>
    intro j k
    show Nat.testBit 0 k = _
    rw [Nat.zero_testBit, decide_eq_false (by omega), Bool.and_false]
  | succ m ih =>
    intro j k
    show ((if f j then 2 ^ j else 0) ||| orN f (j + 1) m).testBit k = _
    rw [Nat.testBit_or, ih]
    by_cases hk : k = j
    · subst hk
      rw [decide_eq_false (show ¬ (k + 1 ≤ k ∧ k < k + 1 + m) by omega), Bool.and_false, Bool.or_false, decide_eq_true (show k ≤ k ∧ k < k + (m + 1) by omega), Bool.and_true]
      cases f k
      · exact Nat.zero_testBit k
      · show Nat.testBit (2 ^ k) k = true
        rw [Nat.testBit_two_pow]; simp
    · have e : (if f j then 2 ^ j else 0).testBit k = false := by
        split
        · rw [Nat.testBit_two_pow]; simp; omega
        · exact Nat.zero_testBit k
      rw [e, Bool.false_or]
      congr 1
      exact decide_eq_decide.mpr (by omega)
theorem orR_N {g : Nat → Int32} {f : Nat → Bool} : ∀ m j, j + m ≤ 8 → (∀ i, j ≤ i → i < j + m → g i = if f i then bit1 i else 0) → orR g j m = nI (orN f j m) := by
  intro m
  induction m with
  | zero => intro j _ _; rfl
  | succ m ih =>
    intro j hj h
    show g j ||| orR g (j + 1) m = nI ((if f j then 2 ^ j else 0) ||| orN f (j + 1) m)
    rw [nI_or, ih (j + 1) (by omega) (fun i h1 h2 => h i (by omega) (by omega)), h j (Nat.le_refl _) (by omega)]
    congr 1
    cases f j
    · rfl
    · exact bit1_N j (by omega)
def mvN (nd : Nat → Nat) (s : Nat) : Nat := orN (cnb nd s) 0 8
def ndT (T : Tw) (i : Nat) : Nat := (T 3 i).toNatClampNeg
theorem nd_e {T : Tw} {r p N : Nat} (ok : okTw T r p N) (i : Nat) : T 3 i = nI (ndT T i) ∧ ndT T i ≤ 9 ∧ (p ≤ i → ndT T i = 0) := by
  obtain ⟨f, hf, ef⟩ := ok.2.2.2.2.2.2.2.2.2.1 i
  have h : ndT T i = f := by unfold ndT; rw [ef, nI_clamp (by omega)]
  refine ⟨by rw [h]; exact ef, by omega, fun hp => ?_⟩
  rw [h]
  have := (ok.2.2.2.2.2.2.2.1 i hp).2
  rw [ef] at this
  exact (nI_eq (a := f) (b := 0) (by omega) (by decide)).mp this
theorem mov_N {T : Tw} {r p N : Nat} (ok : okTw T r p N) {s : Nat} (hs : s < 256) : movT T (nI s) = nI (mvN (ndT T) s) := by
  unfold movT mvN
  refine orR_N 8 0 (by decide) (fun i _ hi => ?_)
  obtain ⟨h1, h2, -⟩ := nd_e ok i
  rw [h1, (clr_e s hs i (by omega)).1, bc_pc (clr_e s hs i (by omega)).2]
  have h3 := pc_le (clr_e s hs i (by omega)).2
  unfold cnb
  by_cases a : ndT T i = 0
  · rw [if_pos (by rw [a]; rfl), decide_eq_false (fun h => h a)]; rfl
  · rw [if_neg (nI_ne0 (by omega) (by omega)), decide_eq_true a, Bool.true_and]
    by_cases b : ndT T i ≤ pc (clr s i)
    · rw [if_pos (nI_le b (by omega)), decide_eq_true b]; rfl
    · rw [if_neg (nI_ge (by omega) (by omega)), decide_eq_false b]; rfl
-- the class's way: all at once, eight times
def clN (nd : Nat → Nat) : Nat → Nat → Nat
  | 0, s => s
  | m + 1, s => clN nd m (s ||| mvN nd s)
def cloT (T : Tw) (x : Int32) : Int32 := foldU (fun _ x => x ||| movT T x) 8 0 x
theorem clN_lt {nd : Nat → Nat} : ∀ m s, s < 256 → clN nd m s < 256 := by
  intro m
  induction m with
  | zero => intro s h; exact h
  | succ m ih => intro s h; exact ih _ (or_256 h (orN_lt _ 8 0 (by decide)))
theorem clo_N {T : Tw} {r p N : Nat} (ok : okTw T r p N) : ∀ m j s, s < 256 → foldU (fun _ x => x ||| movT T x) m j (nI s) = nI (clN (ndT T) m s) := by
  intro m
  induction m with
  | zero => intro j s _; rfl
  | succ m ih =>
    intro j s hs
    show foldU (fun _ x => x ||| movT T x) m (j + 1) (nI s ||| movT T (nI s)) = nI (clN (ndT T) m (s ||| mvN (ndT T) s))
    rw [mov_N ok hs, ← nI_or]
    exact ih (j + 1) _ (or_256 hs (orN_lt _ 8 0 (by decide)))
theorem mvN_bit (nd : Nat → Nat) (s k : Nat) (hk : k < 8) : (mvN nd s).testBit k = cnb nd s k := by
  unfold mvN
  rw [orN_bit, decide_eq_true (by omega), Bool.and_true]
theorem sub_rfl (s : Nat) : sub8 s s := fun _ _ h => h
theorem sub_tr {a b c : Nat} (h1 : sub8 a b) (h2 : sub8 b c) : sub8 a c := fun k hk h => h2 k hk (h1 k hk h)
theorem clN_up {nd : Nat → Nat} : ∀ m s, sub8 s (clN nd m s) := by
  intro m
  induction m with
  | zero => intro s; exact sub_rfl s
  | succ m ih => intro s; exact sub_tr sub_or (ih _)
theorem or_sub {a b c : Nat} (h1 : sub8 a c) (h2 : sub8 b c) : sub8 (a ||| b) c := fun k hk h => by
  rw [Nat.testBit_or, Bool.or_eq_true] at h
  rcases h with h | h
  · exact h1 k hk h
  · exact h2 k hk h
theorem clN_in {nd : Nat → Nat} {c : Nat} (hc : c < 256) (hcl : clsd nd c) : ∀ m s, s < 256 → sub8 s c → sub8 (clN nd m s) c := by
  intro m
  induction m with
  | zero => intro s _ h; exact h
  | succ m ih =>
    intro s hs h
    refine ih _ (or_256 hs (orN_lt _ 8 0 (by decide))) (or_sub h (fun k hk hb => ?_))
    rw [mvN_bit nd s k hk] at hb
    exact hcl k hk (cnb_mono hs hc hk h hb)
theorem clsd_fix {nd : Nat → Nat} {s : Nat} (hs : s < 256) (h : s ||| mvN nd s = s) : clsd nd s := fun i hi hc => by
  rw [← h, Nat.testBit_or, mvN_bit nd s i hi, hc, Bool.or_true]
theorem clN_cl {nd : Nat → Nat} : ∀ m s k, s < 256 → (clsd nd s ∨ k ≤ pc s) → clsd nd (clN nd m s) ∨ k + m ≤ pc (clN nd m s) := by
  intro m
  induction m with
  | zero => intro s k _ h; exact h
  | succ m ih =>
    intro s k hs h
    have h2 : s ||| mvN nd s < 256 := or_256 hs (orN_lt (cnb nd s) 8 0 (by decide))
    have key : clsd nd (s ||| mvN nd s) ∨ k + 1 ≤ pc (s ||| mvN nd s) := by
      by_cases hq : s ||| mvN nd s = s
      · left; rw [hq]; exact clsd_fix hs hq
      · rcases h with h | h
        · exfalso
          apply hq
          refine (sub_eq hs h2 sub_or (or_sub (sub_rfl s) (fun k hk hb => ?_))).symm
          rw [mvN_bit nd s k hk] at hb
          exact h k hk hb
        · right
          have := pc_lt hs h2 sub_or (fun e => hq e.symm)
          omega
    have := ih _ (k + 1) h2 key
    rw [show k + (m + 1) = k + 1 + m from by omega]
    exact this
theorem pc_full {s : Nat} (hs : s < 256) (h : 8 ≤ pc s) : ∀ k, k < 8 → s.testBit k = true := by
  intro k hk
  rw [pc_sum s hs] at h
  have b1 : ∀ x : Bool, b01 x ≤ 1 := by intro x; cases x <;> decide
  have a0 := b1 (s.testBit 0)
  have a1 := b1 (s.testBit 1)
  have a2 := b1 (s.testBit 2)
  have a3 := b1 (s.testBit 3)
  have a4 := b1 (s.testBit 4)
  have a5 := b1 (s.testBit 5)
  have a6 := b1 (s.testBit 6)
  have a7 := b1 (s.testBit 7)
  have key : b01 (s.testBit k) = 1 := by
    rcases (show k = 0 ∨ k = 1 ∨ k = 2 ∨ k = 3 ∨ k = 4 ∨ k = 5 ∨ k = 6 ∨ k = 7 by omega) with rfl | rfl | rfl | rfl | rfl | rfl | rfl | rfl <;> omega
  revert key
  cases s.testBit k <;> intro key
  · exact absurd key (by decide)
  · rfl
theorem clN8 {nd : Nat → Nat} {s : Nat} (hs : s < 256) : clsd nd (clN nd 8 s) := by
  rcases clN_cl (nd := nd) 8 s 0 hs (.inr (Nat.zero_le _)) with h | h
  · exact h
  · exact fun i hi _ => pc_full (clN_lt 8 s hs) (by omega) i hi
-- the model's way: one by one, as often as there are people
def sq1 (nd : Nat → Nat) (j s : Nat) : Nat := s ||| (if cnb nd s j then 2 ^ j else 0)
theorem pow_256 {j : Nat} (h : j < 8) : 2 ^ j < 256 := Nat.pow_lt_pow_right (n := 8) (by decide) h
theorem sq1_lt {nd : Nat → Nat} {j s : Nat} (hj : j < 8) (hs : s < 256) : sq1 nd j s < 256 := or_256 hs (by split; exact pow_256 hj; decide)
theorem sq1_in {nd : Nat → Nat} {j s c : Nat} (hj : j < 8) (hs : s < 256) (hc : c < 256) (hcl : clsd nd c) (h : sub8 s c) : sub8 (sq1 nd j s) c := or_sub h (fun k hk hb => by
  split at hb
  · rename_i q
    rw [Nat.testBit_two_pow] at hb
    have : j = k := of_decide_eq_true hb
    subst this
    exact hcl j hj (cnb_mono hs hc hj h q)
  · rw [Nat.zero_testBit] at hb; cases hb)
theorem sqF {nd : Nat → Nat} {p : Nat} (hp : p ≤ 8) : ∀ m j s, j + m = p → s < 256 → foldU (sq1 nd) m j s < 256 ∧ sub8 s (foldU (sq1 nd) m j s) ∧ (∀ c, c < 256 → clsd nd c → sub8 s c → sub8 (foldU (sq1 nd) m j s) c) ∧ (foldU (sq1 nd) m j s = s → ∀ i, j ≤ i → i < p → cnb nd s i = true → s.testBit i = true) := by
  intro m
  induction m with
  | zero => intro j s hj hs; exact ⟨hs, sub_rfl s, fun c _ _ h => h, fun _ i h1 h2 => by omega⟩
  | succ m ih =>
    intro j s hj hs
    have hs1 := sq1_lt (nd := nd) (j := j) (by omega) hs
    obtain ⟨i1, i2, i3, i4⟩ := ih (j + 1) (sq1 nd j s) (by omega) hs1
    refine ⟨i1, sub_tr sub_or i2, fun c hc hcl h => i3 c hc hcl (sq1_in (by omega) hs hc hcl h), fun hq => ?_⟩
    have e1 : sq1 nd j s = s := sub_eq hs1 hs (by
      have := i2
      rw [show foldU (sq1 nd) m (j + 1) (sq1 nd j s) = s from hq] at this
      exact this) sub_or
    rw [e1] at i4
    intro i h1 h2 hc
    by_cases hij : i = j
    · subst hij
      rw [← e1]
      unfold sq1
      rw [Nat.testBit_or, if_pos hc, Nat.testBit_two_pow]
      simp
    · refine i4 ?_ i (by omega) h2 hc
      have : foldU (sq1 nd) (m + 1) j s = foldU (sq1 nd) m (j + 1) s := by
        show foldU (sq1 nd) m (j + 1) (sq1 nd j s) = _
        rw [e1]
      rw [← this]
      exact hq
def sqN (nd : Nat → Nat) (p : Nat) : Nat → Nat → Nat
  | 0, s => s
  | m + 1, s => sqN nd p m (foldU (sq1 nd) p 0 s)
/-- how many of the first so many -/
theorem sqN_all {nd : Nat → Nat} {p : Nat} (hp : p ≤ 8) (hnd : ∀ i, p ≤ i → nd i = 0) : ∀ m s k, s < 256 → (clsd nd s ∨ k ≤ pc s) → sqN nd p m s < 256 ∧ sub8 s (sqN nd p m s) ∧ (∀ c, c < 256 → clsd nd c → sub8 s c → sub8 (sqN nd p m s) c) ∧ (clsd nd (sqN nd p m s) ∨ k + m ≤ pc (sqN nd p m s)) := by
  intro m
  induction m with
  | zero => intro s k hs h; exact ⟨hs, sub_rfl s, fun c _ _ h => h, h⟩
  | succ m ih =>
    intro s k hs h
    obtain ⟨f1, f2, f3, f4⟩ := sqF (nd := nd) hp p 0 s (by omega) hs
    have key : clsd nd (foldU (sq1 nd) p 0 s) ∨ k + 1 ≤ pc (foldU (sq1 nd) p 0 s) := by
      by_cases hq : foldU (sq1 nd) p 0 s = s
      · left
        rw [hq]
        intro i hi hc
        by_cases hip : i < p
        · exact f4 hq i (Nat.zero_le _) hip hc
        · unfold cnb at hc
          rw [hnd i (by omega)] at hc
          simp at hc
      · rcases h with h | h
        · exfalso
          exact hq (sub_eq f1 hs (f3 s hs h (sub_rfl s)) f2)
        · right
          have := pc_lt hs f1 f2 (fun e => hq e.symm)
          omega
    obtain ⟨a1, a2, a3, a4⟩ := ih (foldU (sq1 nd) p 0 s) (k + 1) f1 key
    refine ⟨a1, sub_tr f2 a2, fun c hc hcl h => a3 c hc hcl (f3 c hc hcl h), ?_⟩
    rw [show k + (m + 1) = k + 1 + m from by omega]
    exact a4
theorem pc_p : ∀ p : Nat, p < 9 → ∀ s : Nat, s < 2 ^ p → p ≤ pc s → s = 2 ^ p - 1 := by decide +kernel
theorem full_c {nd : Nat → Nat} {p : Nat} (hp : p ≤ 8) (hnd : ∀ i, p ≤ i → nd i = 0) : clsd nd (2 ^ p - 1) := by
  intro i hi hc
  by_cases hip : i < p
  · rw [Nat.testBit_two_pow_sub_one]; exact decide_eq_true hip
  · unfold cnb at hc
    rw [hnd i (by omega)] at hc
    simp at hc
theorem sub_full {s p : Nat} (hs : s < 2 ^ p) : sub8 s (2 ^ p - 1) := by
  intro k _ h
  rw [Nat.testBit_two_pow_sub_one]
  refine decide_eq_true ?_
  rcases Nat.lt_or_ge k p with h1 | h1
  · exact h1
  · rw [Nat.testBit_lt_two_pow (Nat.lt_of_lt_of_le hs (Nat.pow_le_pow_right (by decide) h1))] at h
    cases h
theorem sub_lt {s p : Nat} (hp : p ≤ 8) (hs : s < 256) (h : sub8 s (2 ^ p - 1)) : s < 2 ^ p := by
  have h8 := pow8 hp
  apply Nat.lt_pow_two_of_testBit
  intro i hi
  by_cases h1 : i < 8
  · cases e : s.testBit i
    · rfl
    · have := h i h1 e
      rw [Nat.testBit_two_pow_sub_one] at this
      have := of_decide_eq_true this
      omega
  · exact Nat.testBit_lt_two_pow (Nat.lt_of_lt_of_le hs (show 256 ≤ 2 ^ i from Nat.pow_le_pow_right (n := 2) (by decide) (show 8 ≤ i by omega)))
/-- both ways lead to the same -/
theorem two_ways {nd : Nat → Nat} {p s : Nat} (hp : p ≤ 8) (hnd : ∀ i, p ≤ i → nd i = 0) (hs : s < 2 ^ p) : sqN nd p p s = clN nd 8 s ∧ clN nd 8 s < 2 ^ p := by
  have h8 := pow8 hp
  have hs2 : s < 256 := by omega
  obtain ⟨a1, a2, a3, a4⟩ := sqN_all hp hnd p s 0 hs2 (.inr (Nat.zero_le _))
  have hfc := full_c (nd := nd) hp hnd
  have hlt : sqN nd p p s < 2 ^ p := sub_lt hp a1 (a3 _ (by omega) hfc (sub_full hs))
  have hcl : clsd nd (sqN nd p p s) := by
    rcases a4 with h | h
    · exact h
    · rw [pc_p p (by omega) _ hlt (by omega)]; exact hfc
  have c1 := clN_lt (nd := nd) 8 s hs2
  have e : sqN nd p p s = clN nd 8 s := sub_eq a1 c1 (a3 _ c1 (clN8 hs2) (clN_up 8 s)) (clN_in a1 hcl 8 s hs2 a2)
  exact ⟨e, by rw [← e]; exact hlt⟩
