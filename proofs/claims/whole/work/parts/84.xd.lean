-- ===== keep, again =====
abbrev Kb : Type := Nat → Option Bl
def KpC (w : Wd) (kp : Kb) : Prop := ∃ s : Nat, s < 8 ∧ gI w 0 10 = nI s ∧ ∀ i, i < 3 → (bt (nI s) i = 0 ↔ kp i = none) ∧ ∀ b, kp i = some b → bC w (82 + 2 * i) = b
def KpM (w : Wd) (kp : Kb) (C : Nat) : Prop := ∃ ch : Nat, ch ≤ C ∧ gI w 88 5 = nI ch ∧ ∀ i, i < 3 → (∃ cc : Nat, cc ≤ ch ∧ gI w 117 i = nI cc ∧ (kp i = none ↔ (gI w 116 i = 0 ∨ ¬ cc = ch))) ∧ ∀ b, kp i = some b → ∀ j, j < 16 → gI w 118 (16 * i + j) = b j
def setK (kp : Kb) (i : Nat) (b : Bl) : Kb := fun j => if j = i then some b else kp j
def qKeep (x : Int32) (kp : Kb) (b : Bl) : Int32 × Kb := if x < 0 then (0, kp) else if x < 3 then (1, setK kp x.toNatClampNeg b) else (0, kp)
def qAgain (x : Int32) (kp : Kb) (b : Bl) (u : Us) : Int32 × Bl × Us := if x < 0 then (0, b, u) else if x < 3 then (match kp x.toNatClampNeg with | none => (0, b, u) | some c => (1, c, [])) else (0, b, u)
theorem kbits : ∀ s : Nat, s < 8 → ∀ i : Nat, i < 3 → s ||| 2 ^ i < 8 ∧ nI s ||| ishlI 1 (nI i) = nI (s ||| 2 ^ i) ∧ ∀ j : Nat, j < 3 → bt (nI (s ||| 2 ^ i)) j = if j = i then 1 else bt (nI s) j := by decide +kernel
theorem isX1_kept : ∀ i : Nat, i < 3 → isX1 (82 + 2 * i) = true := by decide
theorem lt3 {x : Int32} (h1 : ¬ x < 0) (h2 : x < 3) : ∃ n : Nat, n < 3 ∧ x = nI n := by
  obtain ⟨n, -, n2, rfl⟩ := rng h1 (Int32.le_of_lt h2) (A := 0) (B := 3)
  refine ⟨n, ?_, rfl⟩
  by_cases c : n = 3
  · subst c; exact absurd h2 (by decide)
  · omega
def KpF (b : Nat) : Prop := b = 0 ∨ (82 ≤ b ∧ b ≤ 87)
theorem v_X10_keep {F : Nat} (hF : 100 ≤ F) {w : Wd} {kp : Kb} (h : KpC w kp) (x : Int32) : ∃ w2, P_X10_keep F w x = some ((qKeep x kp (bC w 23)).1, w2) ∧ Fr KpF w w2 ∧ KpC w2 (qKeep x kp (bC w 23)).2 := by
  unfold P_X10_keep qKeep
  by_cases h1 : x < 0
  · rw [if_pos h1, if_pos h1]; exact ⟨w, rfl, Fr.rfl', h⟩
  rw [if_neg h1, if_neg h1]
  by_cases h2 : x < 3
  · rw [if_pos h2, if_pos h2]
    obtain ⟨i, hi, rfl⟩ := lt3 h1 h2
    obtain ⟨s, s1, s2, s3⟩ := h
    obtain ⟨k1, k2, k3⟩ := kbits s s1 i hi
    obtain ⟨w1, a1, a2, a3⟩ := v_X1_copy (F := F) hF w (82 + 2 * i) 23 (by omega) (by omega) (by omega)
    have e10 : gI w1 0 10 = nI s := by rw [(a2 0 (by omega)).1]; exact s2
    rw [nI_clamp (by omega), gd_t (inB_n hi (by omega)), lt_v, gd_t (isX1_kept i hi), bnv_r a1, lt_v, e10, k2]
    have f2 : Fr (fun b => b = 0) w1 (sI w1 0 10 (nI (s ||| 2 ^ i))) := Fr.ofI
    refine ⟨_, rfl, a2.tr f2 (fun b hb => .inr (by omega)) (fun b hb => .inl hb), _, k1, gIs, fun j hj => ⟨?_, fun b hb => ?_⟩⟩
    · rw [k3 j hj]
      show _ ↔ (if j = i then some (bC w 23) else kp j) = none
      by_cases c : j = i
      · rw [if_pos c, if_pos c]; exact ⟨fun q => absurd q (by decide), fun q => absurd q (by simp)⟩
      · rw [if_neg c, if_neg c]; exact (s3 j hj).1
    · have hb : (if j = i then some (bC w 23) else kp j) = some b := hb
      rw [bC_fr f2 (by omega) (by omega)]
      by_cases c : j = i
      · rw [if_pos c] at hb
        rw [c, a3]; exact Option.some.inj hb
      · rw [if_neg c] at hb
        rw [bC_fr a2 (by omega) (by omega)]; exact (s3 j hj).2 b hb
  · rw [if_neg h2, if_neg h2]; exact ⟨w, rfl, Fr.rfl', h⟩
theorem v_X10_again {F : Nat} (hF : 100 ≤ F) {w : Wd} {kp : Kb} (h : KpC w kp) {u : Us} (hu : PsC w u) (x : Int32) : ∃ w2, P_X10_again F w x = some ((qAgain x kp (bC w 23) u).1, w2) ∧ Fr (fun b => b = 23 ∨ b = 24 ∨ b = 29) w w2 ∧ bC w2 23 = (qAgain x kp (bC w 23) u).2.1 ∧ PsC w2 (qAgain x kp (bC w 23) u).2.2 := by
  unfold P_X10_again qAgain
  by_cases h1 : x < 0
  · rw [if_pos h1, if_pos h1]; exact ⟨w, rfl, Fr.rfl', rfl, hu⟩
  rw [if_neg h1, if_neg h1]
  by_cases h2 : x < 3
  · rw [if_neg (Int32.not_le.mpr h2), if_pos h2]
    obtain ⟨i, hi, rfl⟩ := lt3 h1 h2
    obtain ⟨s, s1, s2, s3⟩ := h
    obtain ⟨t1, t2⟩ := s3 i hi
    rw [nI_clamp (by omega), s2]
    show ∃ w2, (if bt (nI s) i = 0 then _ else _) = _ ∧ _
    cases e : kp i with
    | none => rw [if_pos (t1.mpr e)]; exact ⟨w, rfl, Fr.rfl', rfl, hu⟩
    | some c =>
      rw [if_neg (fun q => by rw [t1.mp q] at e; exact absurd e (by simp))]
      obtain ⟨w1, a1, a2, a3⟩ := v_X1_copy (F := F) hF w 23 (82 + 2 * i) (by omega) (by omega) (by omega)
      rw [gd_t (inB_n hi (by omega)), lt_v, gd_t (isX1_kept i hi), bnv_r a1]
      have f2 : Fr (fun b => b = 29) w1 (sI w1 29 2 0) := Fr.ofI
      refine ⟨_, rfl, a2.tr f2 (fun b hb => by omega) (fun b hb => by omega), ?_, ?_⟩
      · show bC (sI w1 29 2 0) 23 = c
        rw [bC_fr f2 (by omega) (by omega), a3]; exact t2 c e
      · obtain ⟨y, y1, y2, y3, y4, y5⟩ := hu
        refine ⟨y, y1, ?_, Nat.zero_le _, gIs, fun j hj => absurd hj (Nat.not_lt_zero _)⟩
        rw [gIk (by decide), (a2 29 (by omega)).1]; exact y2
  · rw [if_pos (Int32.not_lt.mp h2), if_neg h2]; exact ⟨w, rfl, Fr.rfl', rfl, hu⟩
def KmF (a k : Nat) : Prop := (a = 88 ∧ k = 0) ∨ (116 ≤ a ∧ a ≤ 118)
theorem le2 (x : Int32) : x ≤ 2 ↔ x < 3 := by
  constructor
  · intro h
    exact Int32.lt_of_le_of_lt h (by decide)
  · intro h
    by_cases c : x < 0
    · exact Int32.le_of_lt (Int32.lt_trans c (by decide))
    · obtain ⟨n, n1, rfl⟩ := lt3 c h
      exact nI_le (a := n) (b := 2) (by omega) (by decide)
theorem KpM_fr {q : Nat → Nat → Prop} {w w2 : Wd} {kp : Kb} {C : Nat} (h : KpM w kp C) (f : Fm q w w2) (hq : ∀ a k, q a k → ¬ ((116 ≤ a ∧ a ≤ 118) ∨ (a = 88 ∧ k = 5))) : KpM w2 kp C := by
  obtain ⟨ch, h1, h2, h3⟩ := h
  refine ⟨ch, h1, by rw [(f 88 5 (fun z => hq _ _ z (by omega))).1]; exact h2, fun i hi => ⟨?_, fun b hb j hj => by rw [(f 118 _ (fun z => hq _ _ z (by omega))).1]; exact (h3 i hi).2 b hb j hj⟩⟩
  obtain ⟨⟨cc, c1, c2, c3⟩, -⟩ := h3 i hi
  exact ⟨cc, c1, by rw [(f 117 _ (fun z => hq _ _ z (by omega))).1]; exact c2, by rw [(f 116 _ (fun z => hq _ _ z (by omega))).1]; exact c3⟩
theorem v_X11_keep {F : Nat} (hF : 100 ≤ F) {w : Wd} {kp : Kb} {C : Nat} (hC : C < 2 ^ 31) (h : KpM w kp C) {b : Bl} (eb : rM w 95 = b) (x : Int32) : ∃ w2, P_X11_keep F w x = some ((qKeep x kp b).1, w2) ∧ Fm KmF w w2 ∧ KpM w2 (qKeep x kp b).2 C := by
  have f0 : Fm (fun a k => a = 88 ∧ k = 0) w (sI w 88 0 0) := Fm.rfl'.sI ⟨rfl, rfl⟩
  have h0 : KpM (sI w 88 0 0) kp C := KpM_fr h f0 (fun a k z => by omega)
  have F0 : Fm KmF w (sI w 88 0 0) := f0.imp (fun _ _ z => .inl z)
  unfold P_X11_keep qKeep
  rw [lt_v, in_r F _ x 0 2]
  by_cases h1 : x < 0
  · rw [if_pos h1, if_pos h1]; exact ⟨_, rfl, F0, h0⟩
  rw [if_neg h1, if_neg h1]
  by_cases h2 : x < 3
  · rw [if_pos ((le2 x).mpr h2), if_pos h2]
    obtain ⟨i, hi, rfl⟩ := lt3 h1 h2
    have hin : inB (nI i) 3 = true := inB_n hi (by omega)
    obtain ⟨ch, c1, c2, c3⟩ := h
    rw [nI_clamp (by omega), gd_t hin, lt_v, gd_t hin, lt_v, gIa (by decide), gIk (by decide), c2]
    have key : ∀ m j, j + m = 16 → ∀ f, m < f → ∀ v, Fm KmF w v → gI v 88 5 = nI ch → (∀ q, q < 3 → (q = i → gI v 116 q = 1 ∧ gI v 117 q = nI ch) ∧ (¬ q = i → gI v 116 q = gI w 116 q ∧ gI v 117 q = gI w 117 q)) → (∀ q, q < 3 → ∀ k, k < 16 → gI v 118 (16 * q + k) = if q = i then (if k < j then b k else gI v 118 (16 * q + k)) else gI w 118 (16 * q + k)) → ∃ w2, L_X11_keep_38 F (nI i) (fun w  => some (1, w)) f v (nI j) = some (1, w2) ∧ Fm KmF w w2 ∧ KpM w2 (setK kp i b) C := by
      intro m
      induction m with
      | zero =>
        intro j hj f hf v g1 g2 g3 g4
        obtain ⟨f, rfl⟩ : ∃ q, f = q + 1 := ⟨f - 1, by omega⟩
        obtain rfl : j = 16 := by omega
        rw [L_X11_keep_38, if_pos (show (16 : Int32) ≤ nI 16 from by decide)]
        refine ⟨v, rfl, g1, ch, c1, g2, fun q hq => ⟨?_, fun c hc k hk => ?_⟩⟩
        · by_cases e : q = i
          · refine ⟨ch, Nat.le_refl _, ((g3 q hq).1 e).2, ?_⟩
            show (if q = i then some b else kp q) = none ↔ _
            rw [if_pos e, ((g3 q hq).1 e).1]
            exact ⟨fun z => absurd z (by simp), fun z => z.elim (fun z => absurd z (by decide)) (fun z => absurd rfl z)⟩
          · obtain ⟨⟨cc, d1, d2, d3⟩, -⟩ := c3 q hq
            refine ⟨cc, d1, by rw [((g3 q hq).2 e).2]; exact d2, ?_⟩
            show (if q = i then some b else kp q) = none ↔ _
            rw [if_neg e, ((g3 q hq).2 e).1]; exact d3
        · have hc : (if q = i then some b else kp q) = some c := hc
          rw [g4 q hq k hk]
          by_cases e : q = i
          · rw [if_pos e] at hc
            rw [if_pos e, if_pos hk, Option.some.inj hc]
          · rw [if_neg e] at hc
            rw [if_neg e]; exact (c3 q hq).2 c hc k hk
      | succ m ih =>
        intro j hj f hf v g1 g2 g3 g4
        obtain ⟨f, rfl⟩ : ∃ q, f = q + 1 := ⟨f - 1, by omega⟩
        have e16 : (16 : Int32) * nI i + nI j = nI (16 * i + j) := by rw [show (16 : Int32) = nI 16 from rfl, pk_mul, nI_add]
        have e95 : gI v 95 j = b j := by rw [(g1 95 j (by unfold KmF; omega)).1, ← eb, rM_k (by omega)]
        rw [L_X11_keep_38, if_neg (show ¬ (16 : Int32) ≤ nI j from nI_ge (a := j) (b := 16) (by omega) (by decide)), gd_t (inB_n (by omega) (by omega)), e16, gd_t (inB_n (by omega) (by omega)), nI_clamp (by omega), nI_clamp (by omega), e95, lt_v, lt_v, nI_1]
        refine ih (j + 1) (by omega) f (by omega) _ (g1.sI (.inr (by omega))) (by rw [gIa (by decide)]; exact g2) (fun q hq => ⟨fun e => ?_, fun e => ?_⟩) (fun q hq k hk => ?_)
        · rw [gIa (by decide), gIa (by decide)]; exact (g3 q hq).1 e
        · rw [gIa (by decide), gIa (by decide)]; exact (g3 q hq).2 e
        · by_cases e : q = i
          · rw [if_pos e]
            by_cases c : k = j
            · rw [if_pos (by omega), e, c, gIs]
            · by_cases c2 : k < j
              · rw [if_pos (by omega), gIk (by omega), g4 q hq k hk, if_pos e, if_pos c2]
              · rw [if_neg (by omega)]
          · rw [if_neg e, gIk (by omega), g4 q hq k hk, if_neg e]
    exact key 16 0 rfl F (by omega) _ ((F0.sI (.inr (by omega))).sI (.inr (by omega))) (by rw [gIa (by decide), gIa (by decide), gIk (by decide)]; exact c2) (fun q hq => ⟨fun e => by rw [e, gIa (by decide), gIs, gIs]; exact ⟨rfl, rfl⟩, fun e => by rw [gIa (by decide), gIk e, gIa (by decide), gIk e, gIa (by decide), gIa (by decide)]; exact ⟨rfl, rfl⟩⟩) (fun q hq k hk => by
      by_cases e : q = i
      · rw [if_pos e, if_neg (Nat.not_lt_zero _)]
      · rw [if_neg e, gIa (by decide), gIa (by decide), gIa (by decide)])
  · rw [if_neg (fun z => h2 ((le2 x).mp z)), if_neg h2]; exact ⟨_, rfl, F0, h0⟩
def KaF (a k : Nat) : Prop := (a = 88 ∧ (k = 0 ∨ k = 26)) ∨ a = 95
theorem v_X11_again {F : Nat} (hF : 100 ≤ F) {w : Wd} {kp : Kb} {C : Nat} (hC : C < 2 ^ 31) (h : KpM w kp C) {b : Bl} (eb : rM w 95 = b) {u : Us} (hu : PsM w u) (x : Int32) : ∃ w2, P_X11_again F w x = some ((qAgain x kp b u).1, w2) ∧ Fm KaF w w2 ∧ rM w2 95 = (fun k => if k < 16 then (qAgain x kp b u).2.1 k else 0) ∧ PsM w2 (qAgain x kp b u).2.2 := by
  have f0 : Fm (fun a k => a = 88 ∧ k = 0) w (sI w 88 0 0) := Fm.rfl'.sI ⟨rfl, rfl⟩
  have F0 : Fm KaF w (sI w 88 0 0) := f0.imp (fun _ _ z => .inl ⟨z.1, .inl z.2⟩)
  have u0 : PsM (sI w 88 0 0) u := PsM_fr hu f0 (fun a k z => by omega)
  have r0 : rM (sI w 88 0 0) 95 = fun k => if k < 16 then b k else 0 := by
    rw [rM_fr f0 (fun k _ z => by omega), eb]
    funext k
    by_cases c : k < 16
    · rw [if_pos c]
    · rw [if_neg c, ← eb]; exact if_neg c
  unfold P_X11_again qAgain
  rw [lt_v, in_r F _ x 0 2]
  by_cases h1 : x < 0
  · rw [if_pos h1, if_pos h1]; exact ⟨_, rfl, F0, r0, u0⟩
  rw [if_neg h1, if_neg h1]
  by_cases h2 : x < 3
  · rw [if_pos ((le2 x).mpr h2), if_pos h2]
    obtain ⟨i, hi, rfl⟩ := lt3 h1 h2
    have hin : inB (nI i) 3 = true := inB_n hi (by omega)
    obtain ⟨ch, c1, c2, c3⟩ := h
    obtain ⟨⟨cc, d1, d2, d3⟩, d4⟩ := c3 i hi
    rw [nI_clamp (by omega), gd_t hin, gIa (by decide)]
    cases e : kp i with
    | none =>
      by_cases z : gI w 116 i = 0
      · rw [if_pos z]; exact ⟨_, rfl, F0, r0, u0⟩
      · have hne : ¬ cc = ch := (d3.mp e).elim (fun q => absurd q z) (fun q => q)
        rw [if_neg z, gd_t hin, gIa (by decide), gIk (by decide), c2, d2, if_neg (fun q => hne ((nI_eq (by omega) (by omega)).mp q))]
        exact ⟨_, rfl, F0, r0, u0⟩
    | some c =>
      have hnz : ¬ (gI w 116 i = 0 ∨ ¬ cc = ch) := fun q => by rw [d3.mpr q] at e; exact absurd e (by simp)
      have ecc : cc = ch := by
        by_cases q : cc = ch
        · exact q
        · exact absurd (.inr q) hnz
      rw [if_neg (fun q => hnz (.inl q)), gd_t hin, gIa (by decide), gIk (by decide), c2, d2, ecc, if_pos rfl]
      have key : ∀ m j, j + m = 16 → ∀ f, m < f → ∀ v, Fm KaF w v → PsM v u → (∀ k, k < j → gI v 95 k = c k) → ∃ w2, L_X11_again_43 F (nI i) (fun w  => lt (sI w 88 26 0) (fun w16 => some (1, w16))) f v (nI j) = some (1, w2) ∧ Fm KaF w w2 ∧ rM w2 95 = (fun k => if k < 16 then c k else 0) ∧ PsM w2 [] := by
        intro m
        induction m with
        | zero =>
          intro j hj f hf v g1 g2 g3
          obtain ⟨f, rfl⟩ : ∃ q, f = q + 1 := ⟨f - 1, by omega⟩
          obtain rfl : j = 16 := by omega
          rw [L_X11_again_43, if_pos (show (16 : Int32) ≤ nI 16 from by decide), lt_v]
          refine ⟨_, rfl, g1.sI (.inl ⟨rfl, .inr rfl⟩), ?_, Nat.zero_le _, gIs, fun k hk => absurd hk (Nat.not_lt_zero _)⟩
          funext k
          by_cases q : k < 16
          · rw [if_pos q, rM_k q, gIa (by decide)]; exact g3 k q
          · rw [if_neg q]; exact if_neg q
        | succ m ih =>
          intro j hj f hf v g1 g2 g3
          obtain ⟨f, rfl⟩ : ∃ q, f = q + 1 := ⟨f - 1, by omega⟩
          have e16 : (16 : Int32) * nI i + nI j = nI (16 * i + j) := by rw [show (16 : Int32) = nI 16 from rfl, pk_mul, nI_add]
          have e118 : gI v 118 (16 * i + j) = c j := by rw [(g1 118 _ (by unfold KaF; omega)).1]; exact d4 c e j (by omega)
          rw [L_X11_again_43, if_neg (show ¬ (16 : Int32) ≤ nI j from nI_ge (a := j) (b := 16) (by omega) (by decide)), e16, gd_t (inB_n (by omega) (by omega)), gd_t (inB_n (by omega) (by omega)), nI_clamp (by omega), nI_clamp (by omega), e118, lt_v, lt_v, nI_1]
          have f1 : Fm (fun a _ => a = 95) v (sI v 95 j (c j)) := Fm.rfl'.sI rfl
          refine ih (j + 1) (by omega) f (by omega) _ (g1.sI (.inr rfl)) (PsM_fr g2 f1 (fun a k z => by omega)) (fun k hk => ?_)
          by_cases q : k = j
          · rw [q, gIs]
          · rw [gIk q]; exact g3 k (by omega)
      exact key 16 0 rfl F (by omega) _ F0 u0 (fun k hk => absurd hk (Nat.not_lt_zero _))
  · rw [if_neg (fun z => h2 ((le2 x).mp z)), if_neg h2]; exact ⟨_, rfl, F0, r0, u0⟩
