-- ===== a minute: the bench's is the class's =====
def tir (q : Bl) : Nat → Int32 := fun k => if k < 8 then q k else 0
def rop (q : Bl) : Nat → Int32 := fun k => if k < 8 then bt (q 8) k else 0
def dou (q : Bl) : Nat → Int32 := fun k => if k < 8 then bt (q 15) k else 0
/-- a tower kept, by the class's own picture of a bell -/
def stB (S : Sx) (n p : Nat) (a : Nat → Nat) (q : Bl) : va_W := stC S n p a (tir q) (rop q) (dou q) (q 9) (q 10) (q 11) (q 12) (q 13) (q 14)
theorem rop01 (q : Bl) (k : Nat) : rop q k = 0 ∨ rop q k = 1 := by
  unfold rop
  split
  · exact bt01 _ _
  · exact .inl rfl
theorem dou01 (q : Bl) (k : Nat) : dou q k = 0 ∨ dou q k = 1 := by
  unfold dou
  split
  · exact bt01 _ _
  · exact .inl rfl
theorem nI_or2 (a b : Nat) : nI a ||| nI b = nI (a ||| b) := by
  apply Int32.toBitVec_inj.1
  show BitVec.ofNat 32 a ||| BitVec.ofNat 32 b = BitVec.ofNat 32 (a ||| b)
  apply BitVec.eq_of_getLsbD_eq
  intro i hi
  simp [hi]
theorem accL_congr {f g ro rp : Nat → Int32} : ∀ k, (∀ j, j < k → ro j = rp j ∧ f j = g j) → accL f ro k = accL g rp k := by
  intro k
  induction k with
  | zero => intro _; rfl
  | succ k ih =>
    intro h
    have e := ih (fun j hj => h j (by omega))
    obtain ⟨e1, e2⟩ := h k (by omega)
    rw [accL, accL, e, e1, e2]
theorem sumR_snoc (f : Nat → Int32) : ∀ m j, sumR f j (m + 1) = sumR f j m + f (j + m) := by
  intro m
  induction m with
  | zero => intro j; show f j + 0 = 0 + f j; rw [Int32.add_zero, Int32.zero_add]
  | succ m ih =>
    intro j
    rw [sumR, ih (j + 1), sumR, Int32.add_assoc, show j + 1 + m = j + (m + 1) by omega]
theorem accL_sum (f ro : Nat → Int32) : ∀ k, accL f ro k = sumR (fun i => if ro i = 0 then 0 else f i) 0 k := by
  intro k
  induction k with
  | zero => rfl
  | succ k ih =>
    rw [accL, sumR_snoc, ih, Nat.zero_add]
    by_cases h : ro k = 0
    · rw [if_pos h, if_pos h, Int32.add_zero]
    · rw [if_neg h, if_neg h]
theorem sumR_pad (f : Nat → Int32) (n : Nat) : ∀ m, (∀ i, n ≤ i → i < n + m → f i = 0) → sumR f 0 (n + m) = sumR f 0 n := by
  intro m
  induction m with
  | zero => intro _; rfl
  | succ m ih =>
    intro h
    rw [← Nat.add_assoc, sumR_snoc, ih (fun i h1 h2 => h i h1 (by omega)), Nat.zero_add, h (n + m) (by omega) (by omega), Int32.add_zero]
theorem sumR_8 {f : Nat → Int32} {n : Nat} (hn : n ≤ 8) (h : ∀ i, n ≤ i → i < 8 → f i = 0) : sumR f 0 8 = sumR f 0 n := by
  have e := sumR_pad f n (8 - n) (fun i h1 h2 => h i h1 (by omega))
  rw [show n + (8 - n) = 8 by omega] at e
  exact e
theorem cnt_bc : ∀ n, n < 9 → ∀ s, s < 2 ^ n → accL (fun _ => 1) (fun k => bt (nI s) k) n = bc (nI s) := by decide +kernel
theorem bt_hi2 : ∀ n, n < 9 → ∀ s, s < 2 ^ n → ∀ i, i < 8 → n ≤ i → bt (nI s) i = 0 := by decide +kernel
theorem bitsL_bt : ∀ n, n < 9 → ∀ s, s < 2 ^ n → bitsL (fun k => bt (nI s) k) n = nI s := by decide +kernel
theorem bc_0 : ∀ s, s < 256 → (bc (nI s) = 0 ↔ nI s = 0) := by decide +kernel
theorem bc_clr : ∀ s, s < 256 → ∀ j, j < 8 → bc (nI s) - (if bt (nI s) j = 0 then 0 else 1) = bc (nI s &&& (bit1 j ^^^ (-1))) := by decide +kernel
theorem bt_tb : ∀ s, s < 256 → ∀ j, j < 8 → bt (nI s) j = if s.testBit j = true then 1 else 0 := by decide +kernel
theorem bit1_p : ∀ j, j < 8 → bit1 j = nI (2 ^ j) := by decide +kernel
theorem bitsL_congr {f g : Nat → Int32} : ∀ k, (∀ j, j < k → f j = g j) → bitsL f k = bitsL g k := by
  intro k
  induction k with
  | zero => intro _; rfl
  | succ k ih =>
    intro h
    rw [bitsL, bitsL, ih (fun j hj => h j (by omega)), h k (by omega)]
/-- the rule that the bench has is the tower's -/
def RuOk (T : Tw) (r : Int32) : Prop := ∀ str t c st no : Int32, byI r str t c (T 4 2) (T 4 3) st no = valT T str t c (T 4 2) (T 4 3) st (iremI no 60)
theorem p256 {n s : Nat} (hn : n ≤ 8) (hs : s < 2 ^ n) : s < 256 := Nat.lt_of_lt_of_le hs (pow8 hn).2
theorem loud_eq {T : Tw} {r : Int32} {n s : Nat} (hn : n ≤ 8) (hs : s < 2 ^ n) (hr : RuOk T r) (q : Bl) {ro : Nat → Int32} (hro : ∀ j, j < n → ro j = bt (nI s) j) : loudI r (T 4 2) (T 4 3) (T 0) (tir q) ro n (q 9) (q 10) = loudT T q (nI s) := by
  have h8 := p256 hn hs
  have e0 : accL (fun _ => 1) ro n = bc (nI s) := by
    rw [accL_congr (g := fun _ => 1) (rp := fun k => bt (nI s) k) n (fun j hj => ⟨hro j hj, rfl⟩)]
    exact cnt_bc n (by omega) s hs
  have key : ∀ f g : Nat → Int32, (∀ j, j < 8 → f j = g j) → accL f ro n = sumR (fun i => if bt (nI s) i = 0 then 0 else g i) 0 8 := fun f g hfg => by
    rw [accL_congr (g := g) (rp := fun k => bt (nI s) k) n (fun j hj => ⟨hro j hj, hfg j (by omega)⟩), accL_sum]
    exact (sumR_8 hn (fun i h1 h2 => if_pos (bt_hi2 n (by omega) s hs i h2 h1))).symm
  have e1 := key (T 0) (T 0) (fun _ _ => rfl)
  have e2 := key (tir q) q (fun j hj => if_pos hj)
  unfold loudI loudT
  rw [e0]
  by_cases c : nI s = 0
  · rw [if_pos c, if_pos ((bc_0 s h8).mpr c)]
  · rw [if_neg c, if_neg (fun z => c ((bc_0 s h8).mp z))]
    by_cases c2 : q 9 = 0
    · rw [if_pos c2, if_pos c2]
    · rw [if_neg c2, if_neg c2, hr, e1, e2]
/-- one of a few bits, as numbers -/
theorem orR_bits (f : Nat → Int32) : ∀ m a, a + m ≤ 8 → (∀ i, i < 8 → f i = 0 ∨ f i = bit1 i) → ∃ x, x < 2 ^ 8 ∧ orR f a m = nI x ∧ ∀ j, j < 8 → (x.testBit j = true ↔ (a ≤ j ∧ j < a + m ∧ ¬ f j = 0)) := by
  intro m
  induction m with
  | zero => intro a _ _; exact ⟨0, by decide, rfl, fun j _ => ⟨fun h => by rw [Nat.zero_testBit] at h; exact absurd h (by decide), fun h => absurd h.2.1 (by omega)⟩⟩
  | succ m ih =>
    intro a ha hf
    obtain ⟨x, x1, x2, x3⟩ := ih (a + 1) (by omega) hf
    have b1 : ¬ bit1 a = 0 := by
      have h : ∀ a, a < 8 → ¬ bit1 a = 0 := by decide +kernel
      exact h a (by omega)
    rcases hf a (by omega) with h | h
    · refine ⟨x, x1, ?_, fun j hj => ?_⟩
      · rw [orR, h, x2]
        show nI 0 ||| nI x = nI x
        rw [nI_or2, Nat.zero_or]
      · rw [x3 j hj]
        refine ⟨fun ⟨p1, p2, p3⟩ => ⟨by omega, by omega, p3⟩, fun ⟨p1, p2, p3⟩ => ?_⟩
        have : a ≠ j := fun e => p3 (by rw [← e]; exact h)
        exact ⟨by omega, by omega, p3⟩
    · refine ⟨2 ^ a ||| x, Nat.or_lt_two_pow (Nat.pow_lt_pow_right (by decide) (by omega)) x1, ?_, fun j hj => ?_⟩
      · rw [orR, h, x2, bit1_p a (by omega), nI_or2]
      · rw [Nat.testBit_or, Nat.testBit_two_pow, Bool.or_eq_true, decide_eq_true_eq, x3 j hj]
        refine ⟨fun z => ?_, fun ⟨p1, p2, p3⟩ => ?_⟩
        · rcases z with z | ⟨p1, p2, p3⟩
          · subst z; exact ⟨Nat.le_refl _, by omega, by rw [h]; exact b1⟩
          · exact ⟨by omega, by omega, p3⟩
        · by_cases e : a = j
          · exact .inl e
          · exact .inr ⟨by omega, by omega, p3⟩
theorem accP_sum (pa : Int32) (g ro : Nat → Int32) : ∀ k, accP pa g ro k = pa + sumR (fun i => if ro i = 0 then 0 else g i) 0 k := by
  intro k
  induction k with
  | zero => show pa = pa + 0; rw [Int32.add_zero]
  | succ k ih =>
    rw [accP, sumR_snoc, ih, Nat.zero_add]
    by_cases h : ro k = 0
    · rw [if_pos h, if_pos h, Int32.add_zero]
    · rw [if_neg h, if_neg h, Int32.add_assoc]
section MIN
variable {T : Tw} {r : Int32} {n p N Kk : Nat} {q : Bl}
theorem mi_tir (hn : n ≤ 8) (hb : zB q n) : mixF (mnTi (tir q) (rop q)) (tir q) n = tir (mi T q) := by
  funext j
  unfold mixF
  by_cases h8 : j < 8
  · have e : tir (mi T q) j = (if bt (q 8) j = 0 then maxI 0 (q j - 1) else minI 99 (q j + 2)) := by
      show (if j < 8 then mi T q j else 0) = _
      rw [if_pos h8]
      show (if j = 15 then _ else mi0 T q j) = _
      rw [if_neg (by omega)]
      show (if j < 8 then _ else _) = _
      rw [if_pos h8]
    rw [e]
    by_cases h : j < n
    · rw [if_pos h]
      show (if rop q j = 0 then maxI 0 (tir q j - 1) else minI 99 (tir q j + 2)) = _
      rw [show rop q j = bt (q 8) j from if_pos h8, show tir q j = q j from if_pos h8]
    · rw [if_neg h]
      obtain ⟨z1, z2⟩ := hb.1 j (by omega) h8
      rw [show tir q j = q j from if_pos h8, z1, z2, if_pos rfl]
      rfl
  · rw [if_neg (by omega)]
    show (if j < 8 then _ else 0) = (if j < 8 then _ else 0)
    rw [if_neg h8, if_neg h8]
theorem mi_pa (hn : n ≤ 8) {s : Nat} (hs : s < 2 ^ n) (e8 : q 8 = nI s) : accP (q 14) (T 1) (rop q) n = mi T q 14 := by
  rw [accP_sum]
  show _ = q 14 + feesT T (q 8)
  unfold feesT
  rw [e8, sumR_8 hn (f := fun i => bt (nI s) i * T 1 i) (fun i h1 h2 => by
    show bt (nI s) i * T 1 i = 0
    rw [bt_hi2 n (by omega) s hs i h2 h1, Int32.zero_mul])]
  congr 1
  refine sumR_congr n 0 (fun i _ hi => ?_)
  show (if rop q i = 0 then 0 else T 1 i) = bt (nI s) i * T 1 i
  rw [show rop q i = bt (nI s) i from by show (if i < 8 then bt (q 8) i else 0) = _; rw [if_pos (by omega), e8]]
  rcases bt01 (nI s) i with h | h
  · rw [h, if_pos rfl, Int32.zero_mul]
  · rw [h, if_neg (by decide), Int32.one_mul]
theorem g9 : ∀ f, f ≤ 9 → (nI f ≤ 0 ↔ nI f = 0) := by decide +kernel
theorem mi_dou (hn : p ≤ 8) (ok : okTw T n p N) {d : Nat} (hd : d < 2 ^ p) (e15 : q 15 = nI d) : mixF (mnDb (T 2) (T 3) (mi0 T q 12) (accL (fun _ => 1) (dou q) p) (dou q)) (dou q) p = dou (mi T q) := by
  obtain ⟨-, -, -, o4, -, -, -, o8, -, o10, -⟩ := ok
  have h8 := p256 hn hd
  have edj : ∀ j, j < 8 → dou q j = bt (nI d) j := fun j hj => by show (if j < 8 then bt (q 15) j else 0) = _; rw [if_pos hj, e15]
  have eal : accL (fun _ => 1) (dou q) p = bc (nI d) := by
    rw [accL_congr (g := fun _ => 1) (rp := fun k => bt (nI d) k) p (fun j hj => ⟨edj j (by omega), rfl⟩)]
    exact cnt_bc p (by omega) d hd
  obtain ⟨x, x1, x2, x3⟩ := orR_bits (fun i => if T 4 1 ≤ nI i then 0 else if T 2 i ≤ mi0 T q 12 then bit1 i else 0) 8 0 (Nat.le_refl _) (fun i _ => by
    show (if _ then _ else _) = _ ∨ (if _ then _ else _) = _
    split
    · exact .inl rfl
    · split
      · exact .inr rfl
      · exact .inl rfl)
  obtain ⟨y, y1, y2, y3⟩ := orR_bits (fun i => if T 3 i = 0 then 0 else if T 3 i ≤ bc (q 15 &&& (bit1 i ^^^ (-1))) then bit1 i else 0) 8 0 (Nat.le_refl _) (fun i _ => by
    show (if _ then _ else _) = _ ∨ (if _ then _ else _) = _
    split
    · exact .inl rfl
    · split
      · exact .inr rfl
      · exact .inl rfl)
  have e0 : mi T q 15 = nI (d ||| (x ||| y)) := by
    show q 15 ||| (hearT T (mi0 T q 12) ||| movT T (q 15)) = _
    unfold hearT movT
    rw [x2, y2, nI_or2, e15, nI_or2]
  have b1 : ∀ a, a < 8 → ¬ bit1 a = 0 := by decide +kernel
  have hxy : d ||| (x ||| y) < 256 := Nat.or_lt_two_pow (n := 8) h8 (Nat.or_lt_two_pow x1 y1)
  funext j
  by_cases hj : j < 8
  · have er : dou (mi T q) j = if (d ||| (x ||| y)).testBit j = true then 1 else 0 := by
      show (if j < 8 then bt (mi T q 15) j else 0) = _
      rw [if_pos hj, e0, bt_tb _ hxy j hj]
    rw [er, Nat.testBit_or, Nat.testBit_or]
    have ed : dou q j = if d.testBit j = true then 1 else 0 := by rw [edj j hj, bt_tb d h8 j hj]
    unfold mixF
    by_cases hp : j < p
    · rw [if_pos hp]
      have fx : (x.testBit j = true ↔ T 2 j ≤ mi0 T q 12) := by
        rw [x3 j hj]
        have c1 : ¬ T 4 1 ≤ nI j := by rw [o4]; exact nI_ge hp (by omega)
        show (_ ∧ _ ∧ ¬ (if T 4 1 ≤ nI j then (0 : Int32) else if T 2 j ≤ mi0 T q 12 then bit1 j else 0) = 0) ↔ _
        rw [if_neg c1]
        by_cases c : T 2 j ≤ mi0 T q 12
        · rw [if_pos c]; exact ⟨fun _ => c, fun _ => ⟨Nat.zero_le _, by omega, b1 j hj⟩⟩
        · rw [if_neg c]; exact ⟨fun h => absurd rfl h.2.2, fun h => absurd h c⟩
      have fy : (y.testBit j = true ↔ (¬ T 3 j = 0 ∧ T 3 j ≤ bc (nI d &&& (bit1 j ^^^ (-1))))) := by
        rw [y3 j hj]
        show (_ ∧ _ ∧ ¬ (if T 3 j = 0 then (0 : Int32) else if T 3 j ≤ bc (q 15 &&& (bit1 j ^^^ (-1))) then bit1 j else 0) = 0) ↔ _
        rw [e15]
        by_cases c : T 3 j = 0
        · rw [if_pos c]; exact ⟨fun h => absurd rfl h.2.2, fun h => absurd c h.1⟩
        · rw [if_neg c]
          by_cases c2 : T 3 j ≤ bc (nI d &&& (bit1 j ^^^ (-1)))
          · rw [if_pos c2]; exact ⟨fun _ => ⟨c, c2⟩, fun _ => ⟨Nat.zero_le _, by omega, b1 j hj⟩⟩
          · rw [if_neg c2]; exact ⟨fun h => absurd rfl h.2.2, fun h => absurd h.2 c2⟩
      unfold mnDb
      obtain ⟨g, g1, g2⟩ := o10 j
      have eg : (T 3 j ≤ 0 ↔ T 3 j = 0) := by rw [g2]; exact g9 g g1
      rw [eal, show (if dou q j = 0 then (0 : Int32) else 1) = (if bt (nI d) j = 0 then 0 else 1) from by rw [edj j hj], bc_clr d h8 j hj]
      by_cases c1 : T 2 j ≤ mi0 T q 12
      · rw [if_pos c1, fx.mpr c1, Bool.true_or, Bool.or_true, if_pos rfl]
      · have hx : x.testBit j = false := by
          cases hb : x.testBit j with
          | false => rfl
          | true => exact absurd (fx.mp hb) c1
        rw [if_neg c1, hx, Bool.false_or]
        by_cases c2 : T 3 j = 0
        · have hy : y.testBit j = false := by
            cases hb : y.testBit j with
            | false => rfl
            | true => exact absurd c2 (fy.mp hb).1
          rw [if_pos (eg.mpr c2), hy, Bool.or_false]; exact ed
        · rw [if_neg (fun h => c2 (eg.mp h))]
          by_cases c3 : bc (nI d &&& (bit1 j ^^^ (-1))) < T 3 j
          · have hy : y.testBit j = false := by
              cases hb : y.testBit j with
              | false => rfl
              | true => exact absurd c3 (Int32.not_lt.mpr (fy.mp hb).2)
            rw [if_pos c3, hy, Bool.or_false]; exact ed
          · rw [if_neg c3, fy.mpr ⟨c2, Int32.not_lt.mp c3⟩, Bool.or_true, if_pos rfl]
    · rw [if_neg hp, ed]
      have hx : x.testBit j = false := by
        cases hb : x.testBit j with
        | false => rfl
        | true =>
          have := ((x3 j hj).mp hb).2.2
          have c1 : T 4 1 ≤ nI j := by rw [o4]; exact nI_le (by omega) (by omega)
          exact absurd (if_pos c1) this
      have hy : y.testBit j = false := by
        cases hb : y.testBit j with
        | false => rfl
        | true =>
          have := ((y3 j hj).mp hb).2.2
          exact absurd (if_pos (o8 j (by omega)).2) this
      rw [hx, hy, Bool.or_false, Bool.or_false]
  · have e1 : ∀ u : Bl, dou u j = 0 := fun u => if_neg hj
    unfold mixF
    rw [if_neg (by omega), e1, e1]
theorem mi_st (hq : BlI q n p Kk) : mnSt (loudT T q (q 8)) (q 11) (q 9) = mi T q 9 := by
  have z := hq.1.2
  show _ = (if loudT T q (q 8) ≤ 0 then q 9 else if iremI (q 11 + 1) 10 = 0 then maxI 0 (q 9 - 1) else q 9)
  unfold mnSt
  by_cases c : loudT T q (q 8) ≤ 0
  · rw [if_pos c, if_pos c]
  · rw [if_neg c, if_neg c]
    by_cases c2 : iremI (q 11 + 1) 10 = 0
    · rw [if_pos c2, if_pos c2]
      obtain ⟨s, s1, s2⟩ := nI_of2 (M := 99) (n := 99) rfl z (Int32.not_lt.mp hq.2.2.1)
      rw [s2]
      have h : ∀ s, s ≤ 99 → (if nI s ≤ 0 then nI s else nI s - 1) = maxI 0 (nI s - 1) := by decide +kernel
      exact h s s1
    · rw [if_neg c2, if_neg c2]
/-- the minute's outcome, as a picture -/
theorem min_eq (S : Sx) (a : Nat → Nat) (ok : okTw T n p N) (hr : RuOk T r) (hq : BlI q n p Kk) : stC S n p a (mixF (mnTi (tir q) (rop q)) (tir q) n) (rop q) (mixF (mnDb (T 2) (T 3) (mnSi (loudI r (T 4 2) (T 4 3) (T 0) (tir q) (rop q) n (q 9) (q 10)) (q 12)) (accL (fun _ => 1) (dou q) p) (dou q)) (dou q) p) (mnSt (loudI r (T 4 2) (T 4 3) (T 0) (tir q) (rop q) n (q 9) (q 10)) (q 11) (q 9)) (q 10 + 1) (mnRu (loudI r (T 4 2) (T 4 3) (T 0) (tir q) (rop q) n (q 9) (q 10)) (q 11)) (mnSi (loudI r (T 4 2) (T 4 3) (T 0) (tir q) (rop q) n (q 9) (q 10)) (q 12)) (mnSp (loudI r (T 4 2) (T 4 3) (T 0) (tir q) (rop q) n (q 9) (q 10)) (q 12) (T 4 4) (q 13)) (accP (q 14) (T 1) (rop q) n) = stB S n p a (mi T q) := by
  obtain ⟨s, s1, s2, s3⟩ := hq.2.1
  obtain ⟨d, d1, d2⟩ := hq.2.2.2.1
  have hn := ok.1
  have hp := ok.2.1
  have eL : loudI r (T 4 2) (T 4 3) (T 0) (tir q) (rop q) n (q 9) (q 10) = loudT T q (q 8) := by
    rw [s3]
    exact loud_eq hn s1 hr q (fun j hj => by show (if j < 8 then bt (q 8) j else 0) = _; rw [if_pos (by omega), s3])
  rw [eL, show mnSi (loudT T q (q 8)) (q 12) = mi0 T q 12 from rfl, mi_tir (T := T) hn hq.1, mi_pa (T := T) hn s1 s3, mi_dou hp ok d1 d2, mi_st hq]
  rfl
end MIN
