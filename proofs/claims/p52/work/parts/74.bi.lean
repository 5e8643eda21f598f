-- ===== what a bell keeps =====
def BlI (b : Bl) (r p K : Nat) : Prop := zB b r ∧ okRq b r ∧ ¬ 99 < b 9 ∧ okDb b p ∧ ∃ s, s ≤ K ∧ b 12 = nI s
theorem BlI_K {b : Bl} {r p K L : Nat} (h : BlI b r p K) (hk : K ≤ L) : BlI b r p L := by
  obtain ⟨a1, a2, a3, a4, s, a5, a6⟩ := h
  exact ⟨a1, a2, a3, a4, s, by omega, a6⟩
theorem str_n : ∀ n : Nat, n ≤ 99 → ¬ 99 < maxI 0 (nI n - 1) ∧ ¬ 99 < nI n := by decide +kernel
theorem le99 {x : Int32} (h1 : ¬ x < 0) (h2 : ¬ 99 < x) : ∃ n : Nat, n ≤ 99 ∧ x = nI n := by
  obtain ⟨n, _, q2, q3⟩ := rng h1 (Int32.not_lt.mp h2) (A := 0) (B := 99)
  exact ⟨n, q2, q3⟩
theorem mvN_lt {T : Tw} {r p N : Nat} (ok : okTw T r p N) (s : Nat) : mvN (ndT T) s < 2 ^ p := by
  apply Nat.lt_pow_two_of_testBit
  intro k hk
  unfold mvN
  rw [orN_bit]
  have : cnb (ndT T) s k = false := by
    unfold cnb
    rw [(nd_e ok k).2.2 hk]; rfl
  rw [this]; rfl
theorem okDb_mi {T : Tw} {r p N : Nat} (ok : okTw T r p N) {b : Bl} (h : okDb b p) : okDb (mi T b) p := by
  obtain ⟨d, h1, h2⟩ := h
  obtain ⟨u, u1, u2⟩ := hear_N ok (mi0 T b 12)
  have hp := pow8 ok.2.1
  have e : mi T b 15 = nI (d ||| (u ||| mvN (ndT T) d)) := by
    show b 15 ||| (hearT T (mi0 T b 12) ||| movT T (b 15)) = _
    rw [h2, u2, mov_N ok (by omega), ← nI_or, ← nI_or]
  exact ⟨_, or_p h1 (or_p u1 (mvN_lt ok d)), e⟩
theorem BlI_mi {T : Tw} {r p N K : Nat} (ok : okTw T r p N) {b : Bl} (h : BlI b r p K) : BlI (mi T b) r p (K + 1) := by
  obtain ⟨a1, a2, a3, a4, s, a5, a6⟩ := h
  obtain ⟨t, t1, t2⟩ := mi_12N (T := T) a6
  refine ⟨zB_mi a1, okRq_mi a2, ?_, okDb_mi ok a4, t, by omega, t2⟩
  obtain ⟨n, n1, n2⟩ := le99 a1.2 a3
  have e : mi T b 9 = if loudT T b (b 8) ≤ 0 then b 9 else if iremI (b 11 + 1) 10 = 0 then maxI 0 (b 9 - 1) else b 9 := mi_e (by decide)
  rw [e, n2]
  split
  · exact (str_n n n1).2
  · split
    · exact (str_n n n1).1
    · exact (str_n n n1).2
theorem BlI_it {T : Tw} {r p N : Nat} (ok : okTw T r p N) : ∀ n K (b : Bl), BlI b r p K → BlI (itM T n b) r p (K + n) := by
  intro n
  induction n with
  | zero => intro K b h; exact h
  | succ n ih => intro K b h; exact BlI_K (ih (K + 1) _ (BlI_mi ok h)) (by omega)
theorem BlI_set {r p K s : Nat} (hr : r ≤ 8) {b : Bl} (h : BlI b r p K) (hs : s < 2 ^ r) (hc : pc s ≤ 3) : BlI (setR b (nI s)) r p K := by
  obtain ⟨a1, a2, a3, a4, a5⟩ := h
  exact ⟨zB_set hr a1 hs, setR_okRq hs hc, a3, a4, a5⟩
theorem BlI_setO {r p K s : Nat} (hr : r ≤ 8) {b c : Bl} (h : BlI b r p K) (hs : s < 2 ^ r) (e : c = setR b (nI s)) (hc : okRq c r) : BlI c r p K := by
  subst e
  obtain ⟨a1, a2, a3, a4, a5⟩ := h
  exact ⟨zB_set hr a1 hs, hc, a3, a4, a5⟩
theorem BlI_lv {r p K : Nat} (hr : r ≤ 8) {b : Bl} (h : BlI b r p K) (x : Int32) : BlI (lvP r b x).2 r p K := by
  obtain ⟨q, s, q1, q2⟩ := lvP_ok hr h.2.1 x
  exact BlI_setO hr h q1 q2 q
theorem BlI_tk {r p K : Nat} (hr : r ≤ 8) {b : Bl} (h : BlI b r p K) (x : Int32) : BlI (tkP r b x).2 r p K := by
  obtain ⟨q, s, q1, q2⟩ := tkP_ok hr h.2.1 x
  exact BlI_setO hr h q1 q2 q
theorem mn_n : ∀ n : Nat, n ≤ 99 → ∀ m : Nat, m ≤ 99 → ¬ minI 99 (nI n + nI m) < 0 ∧ ¬ 99 < minI 99 (nI n + nI m) := by decide +kernel
theorem BlI_mn {r p K : Nat} {b : Bl} (h : BlI b r p K) (x : Int32) : BlI (mnP b x).2 r p K ∧ ((mnP b x).1 < 0 → mnP b x = (-1, b)) := by
  unfold mnP
  by_cases h1 : x < 1
  · rw [if_pos h1]; exact ⟨h, fun _ => rfl⟩
  rw [if_neg h1]
  by_cases h2 : x ≤ 99
  · rw [if_pos h2]
    obtain ⟨m, m1, m2, rfl⟩ := rng h1 h2 (A := 1) (B := 99)
    obtain ⟨a1, a2, a3, a4, a5⟩ := h
    obtain ⟨n, n1, n2⟩ := le99 a1.2 a3
    have q := mn_n n n1 m m2
    rw [n2]
    refine ⟨⟨⟨fun k hk1 hk2 => ?_, ?_⟩, a2, ?_, a4, a5⟩, fun hl => absurd hl q.1⟩
    · show (if k = 9 then minI 99 (nI n + nI m) else b k) = 0 ∧ bt (if (8 : Nat) = 9 then minI 99 (nI n + nI m) else b 8) k = 0
      rw [if_neg (by omega), if_neg (by decide)]; exact a1.1 k hk1 hk2
    · show ¬ (if (9 : Nat) = 9 then minI 99 (nI n + nI m) else b 9) < 0
      rw [if_pos rfl]; exact q.1
    · show ¬ 99 < (if (9 : Nat) = 9 then minI 99 (nI n + nI m) else b 9)
      rw [if_pos rfl]; exact q.2
  · rw [if_neg h2]; exact ⟨h, fun _ => rfl⟩
theorem BlI_ps {T : Tw} {r p N K : Nat} (ok : okTw T r p N) {b : Bl} (h : BlI b r p K) (x : Int32) : BlI (psP T b x).2 r p (K + 120) ∧ ((psP T b x).1 < 0 ↔ x < 0 ∨ ¬ x ≤ 120) := by
  unfold psP
  by_cases h1 : x < 0
  · rw [if_pos h1]; exact ⟨BlI_K h (by omega), ⟨fun _ => .inl h1, fun _ => (by decide : (-1 : Int32) < 0)⟩⟩
  rw [if_neg h1]
  by_cases h2 : x ≤ 120
  · rw [if_pos h2]
    obtain ⟨n, n1, n2, rfl⟩ := rng h1 h2 (A := 0) (B := 120)
    rw [nI_clamp (by omega)]
    obtain ⟨c, c1, c2⟩ := rungA T n b
    refine ⟨BlI_K (BlI_it ok n K b h) (by omega), ⟨fun hl => ?_, fun hl => ?_⟩⟩
    · have hl : itM T n b 11 - b 11 < 0 := hl
      rw [c2] at hl; exact absurd hl (nI_pos (by omega))
    · rcases hl with q | q
      · exact absurd q h1
      · exact absurd h2 q
  · rw [if_neg h2]; exact ⟨BlI_K h (by omega), ⟨fun _ => .inr h2, fun _ => (by decide : (-1 : Int32) < 0)⟩⟩
/-- one for another -/
def rvP (r : Nat) (b : Bl) (x y : Int32) : Int32 × Bl := if (lvP r b x).1 < 0 then lvP r b x else if (tkP r (lvP r b x).2 y).1 < 0 then ((tkP r (lvP r b x).2 y).1, b) else tkP r (lvP r b x).2 y
theorem BlI_rv {r p K : Nat} (hr : r ≤ 8) {b : Bl} (h : BlI b r p K) (x y : Int32) : BlI (rvP r b x y).2 r p K := by
  unfold rvP
  split
  · exact BlI_lv hr h x
  · split
    · exact h
    · exact BlI_tk hr (BlI_lv hr h x) y
theorem setR_setR (b : Bl) (s t : Int32) : setR (setR b s) t = setR b t := by
  funext k; unfold setR; split <;> rfl
theorem setR_self (b : Bl) : setR b (b 8) = b := by
  funext k; unfold setR; split
  · rename_i h; rw [h]
  · rfl
theorem lv_back {r : Nat} (hr : r ≤ 8) {b : Bl} (h : okRq b r) (x : Int32) : setR (lvP r b x).2 (b 8) = b := by
  obtain ⟨-, s, -, q⟩ := lvP_ok hr h x
  rw [q, setR_setR, setR_self]
theorem bc_set {b : Bl} {r : Nat} (hr : r ≤ 8) {X : Int32} (h : okRq (setR b X) r) : ¬ bc X < 0 := by
  obtain ⟨s, h1, -, h3⟩ := h
  have h3 : X = nI s := h3
  have := pow8 hr
  obtain ⟨c, c1, c2⟩ := (bc_all s (by omega)).1
  rw [h3, c2]; exact nI_pos (by omega)
theorem tk_bad {r : Nat} (hr : r ≤ 8) {b : Bl} (h : okRq b r) (x : Int32) : (tkP r b x).1 < 0 → (tkP r b x).2 = b := by
  have q := (tkP_ok hr h x).1
  unfold tkP at q ⊢
  by_cases c1 : x < 0
  · rw [if_pos c1]; intro _; rfl
  rw [if_neg c1] at q ⊢
  by_cases c2 : nI r ≤ x
  · rw [if_pos c2]; intro _; rfl
  rw [if_neg c2] at q ⊢
  by_cases c3 : bt (b 8) x.toNatClampNeg = 0
  · rw [if_pos c3] at q ⊢
    by_cases c4 : bc (b 8) < 3
    · rw [if_pos c4] at q ⊢
      intro hl; exact absurd hl (bc_set hr q)
    · rw [if_neg c4]; intro _; rfl
  · rw [if_neg c3]; intro _; rfl
