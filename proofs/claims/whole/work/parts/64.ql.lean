-- ===== rotas: what they are =====
/-- so many minutes but for the town -/
def itC (T : Tw) : Nat → Bl → Bl
  | 0, b => b
  | n + 1, b => itC T n (mi0 T b)
theorem mi0_13s (T : Tw) (b : Bl) : ∃ e : Nat, e ≤ 1 ∧ mi0 T b 13 = b 13 + nI e := by
  rw [mi0_13]
  split
  · split
    · exact ⟨1, Nat.le_refl _, rfl⟩
    · exact ⟨0, by omega, (add0 _).symm⟩
  · exact ⟨0, by omega, (add0 _).symm⟩
theorem itC_13 (T : Tw) : ∀ n b, ∃ e : Nat, e ≤ n ∧ itC T n b 13 = b 13 + nI e := by
  intro n
  induction n with
  | zero => intro b; exact ⟨0, Nat.le_refl _, (add0 _).symm⟩
  | succ n ih =>
    intro b
    obtain ⟨e, h1, h2⟩ := ih (mi0 T b)
    obtain ⟨d, h3, h4⟩ := mi0_13s T b
    refine ⟨d + e, by omega, ?_⟩
    show itC T n (mi0 T b) 13 = _
    rw [h2, h4, addA, nI_add]
theorem addN_0 {x : Int32} {e : Nat} (he : e < 2 ^ 31) (h : x + nI e = x) : e = 0 := by
  have h2 := congrArg (fun y => y - x) h
  simp only [Int32.sub_self] at h2
  rw [Int32.add_comm, Int32.add_sub_cancel] at h2
  exact (nI_eq (a := e) (b := 0) he (by decide)).mp h2
/-- the class goes no further once it has stopped -/
def gr (T : Tw) (s : Int32) : Nat → Bl → Bl
  | 0, d => d
  | n + 1, d => if d 13 = s then gr T s n (mi0 T d) else d
theorem gr_e (T : Tw) (s : Int32) : ∀ n d, n < 100 → d 13 = s → (gr T s n d 13 = s ↔ itC T n d 13 = s) ∧ (gr T s n d 13 = s → gr T s n d = itC T n d) := by
  intro n
  induction n with
  | zero => intro d _ h; exact ⟨Iff.rfl, fun _ => rfl⟩
  | succ n ih =>
    intro d hn h
    have e1 : gr T s (n + 1) d = gr T s n (mi0 T d) := if_pos h
    rw [e1]
    show (gr T s n (mi0 T d) 13 = s ↔ itC T n (mi0 T d) 13 = s) ∧ (_ → gr T s n (mi0 T d) = itC T n (mi0 T d))
    by_cases c : mi0 T d 13 = s
    · exact ih (mi0 T d) (by omega) c
    · have e2 : gr T s n (mi0 T d) = mi0 T d := by
        cases n with
        | zero => rfl
        | succ n => exact if_neg c
      rw [e2]
      refine ⟨⟨fun q => absurd q c, fun q => ?_⟩, fun q => absurd q c⟩
      exfalso
      obtain ⟨e, h1, h2⟩ := itC_13 T n (mi0 T d)
      obtain ⟨a, h3, h4⟩ := mi0_13s T d
      rw [h2, h4, addA, nI_add, h] at q
      have := addN_0 (by omega) q
      apply c
      rw [h4, h, show a = 0 by omega]
      exact add0 s
def ups (u : Nat → Nat) (i q : Nat) : Nat → Nat := fun j => if j = i then q else u j
def ftN (T : Tw) (q : Nat) : Nat := (T 1 q).toNatClampNeg
theorem ft_e {T : Tw} {r p N : Nat} (ok : okTw T r p N) (q : Nat) : T 1 q = nI (ftN T q) ∧ ftN T q ≤ 9 := by
  obtain ⟨f, hf, ef⟩ := ok.2.2.2.2.2.2.2.2.1 q
  have h : ftN T q = f := by unfold ftN; rw [ef, nI_clamp (by omega)]
  rw [h]
  exact ⟨ef, hf⟩
def bsN (u : Nat → Nat) : Nat → Nat
  | 0 => 0
  | i + 1 => bsN u i ||| 2 ^ u i
def fsN (T : Tw) (k : Nat) (u : Nat → Nat) : Nat → Nat
  | 0 => 0
  | i + 1 => fsN T k u i + ftN T (u i) * k
/-- what the first so many shifts are worth -/
def cst (T : Tw) (k aim : Nat) (u : Nat → Nat) (i : Nat) : Nat := if aim = 1 then pc (bsN u i) else if aim = 2 then fsN T k u i else 0
theorem bsN_lt {u : Nat → Nat} : ∀ i, (∀ j, j < i → u j < 8) → bsN u i < 256 := by
  intro i
  induction i with
  | zero => intro _; exact (by decide : 0 < 256)
  | succ i ih => intro h; exact or_256 (ih (fun j hj => h j (by omega))) (pow_256 (h i (by omega)))
theorem fsN_le {T : Tw} {r p N k : Nat} (ok : okTw T r p N) (hk : k ≤ 20) (u : Nat → Nat) : ∀ i, fsN T k u i ≤ 180 * i := by
  intro i
  induction i with
  | zero => exact Nat.le_refl _
  | succ i ih =>
    have h9 := (ft_e ok (u i)).2
    have : ftN T (u i) * k ≤ 9 * 20 := Nat.mul_le_mul h9 hk
    show fsN T k u i + _ ≤ _
    omega
theorem bsN_ext {u v : Nat → Nat} : ∀ i, (∀ j, j < i → u j = v j) → bsN u i = bsN v i := by
  intro i
  induction i with
  | zero => intro _; rfl
  | succ i ih => intro h; show bsN u i ||| 2 ^ u i = bsN v i ||| 2 ^ v i; rw [ih (fun j hj => h j (by omega)), h i (by omega)]
theorem fsN_ext {T : Tw} {k : Nat} {u v : Nat → Nat} : ∀ i, (∀ j, j < i → u j = v j) → fsN T k u i = fsN T k v i := by
  intro i
  induction i with
  | zero => intro _; rfl
  | succ i ih => intro h; show fsN T k u i + ftN T (u i) * k = fsN T k v i + ftN T (v i) * k; rw [ih (fun j hj => h j (by omega)), h i (by omega)]
theorem cst_ext {T : Tw} {k aim : Nat} {u v : Nat → Nat} (i : Nat) (h : ∀ j, j < i → u j = v j) : cst T k aim u i = cst T k aim v i := by
  unfold cst
  rw [bsN_ext i h, fsN_ext i h]
theorem cst_mono {T : Tw} {k aim : Nat} {u : Nat → Nat} (i : Nat) (h : ∀ j, j < i + 1 → u j < 8) : cst T k aim u i ≤ cst T k aim u (i + 1) := by
  unfold cst
  split
  · exact pc_mono (bsN_lt i (fun j hj => h j (by omega))) (bsN_lt (i + 1) h) sub_or
  · split
    · exact Nat.le_add_right _ _
    · exact Nat.le_refl _
theorem cst_le {T : Tw} {r p N k aim : Nat} (ok : okTw T r p N) (hk : k ≤ 20) {u : Nat → Nat} {i : Nat} (hi : i ≤ 4) (h : ∀ j, j < i → u j < 8) : cst T k aim u i ≤ 720 := by
  unfold cst
  split
  · exact Nat.le_trans (pc_le (bsN_lt i h)) (by decide)
  · split
    · have := fsN_le ok hk u i; omega
    · omega
abbrev Rb : Type := Option (Nat × (Nat → Nat))
/-- it goes on with one more -/
def goP (T : Tw) (k : Nat) (c : Bl) (q : Nat) : Prop := itC T k (setR c (bit1 q)) 13 = c 13
/-- no better -/
def nob (o : Rb) (a : Nat) : Bool := match o with | none => false | some z => decide (z.1 ≤ a)
/-- the class's search: what comes of the shifts from one on; with 'ex' the first that goes ends it -/
def cq (T : Tw) (r k aim : Nat) : Nat → Nat → (Nat → Nat) → Bl → Nat → Rb → Sum (Nat → Nat) Rb
  | 0, _, _, _, _, o => .inr o
  | m + 1, i, u, c, q, o =>
    if nob o (cst T k aim (ups u i q) (i + 1)) = true then .inr o else
    if ¬ itC T k (setR c (bit1 q)) 13 = c 13 then .inr o else
    if m = 0 then (if aim = 0 then .inl (ups u i q) else .inr (some (cst T k aim (ups u i q) (i + 1), ups u i q))) else
    foldX (cq T r k aim m (i + 1) (ups u i q) (itC T k (setR c (bit1 q)))) r 0 o
-- ===== the class =====
theorem v_X6_worth {F : Nat} (hF : 100 ≤ F) {w : Wd} {T : Tw} {r p N : Nat} (ok : okTw T r p N) (hT : tC w 5 = T) (i : Nat) (hi : i < 4) (k aim : Nat) (hk : k ≤ 20) (ha : aim ≤ 2) (u : Nat → Nat) (hu : ∀ j, j ≤ i → gI w 64 j = nI (u j) ∧ u j < 8) : P_X6_worth F w 5 (nI i) (nI k) (nI aim) = some (nI (cst T k aim u (i + 1)), w) := by
  unfold P_X6_worth
  obtain ⟨w2, e1, e2, -⟩ := lpG (fun m w (s : Nat × Nat) j => L_X6_worth_9 F 5 (nI i) (nI k) (nI aim) (fun w x8 x9 => K_X6_worth_62 F 5 (nI i) (nI k) (nI aim) w x8 x9) m w (nI s.1) (nI s.2) j) (fun w s => K_X6_worth_62 F 5 (nI i) (nI k) (nI aim) w (nI s.1) (nI s.2)) (fun j s => (s.1 ||| 2 ^ u j, s.2 + ftN T (u j) * k)) (fun v s j => v = w ∧ s.2 ≤ 180 * j) (i + 1)
    (fun m v s hI => by
      show L_X6_worth_9 F 5 (nI i) (nI k) (nI aim) _ (m + 1) v _ _ _ = _
      rw [L_X6_worth_9, if_pos (nI_lt (by omega) (by omega))])
    (fun m v s j hj hI => by
      obtain ⟨rfl, h2⟩ := hI
      obtain ⟨h3, h4⟩ := hu j (by omega)
      show ∃ w2, L_X6_worth_9 F 5 (nI i) (nI k) (nI aim) _ (m + 1) v _ _ _ = L_X6_worth_9 F 5 (nI i) (nI k) (nI aim) _ m w2 _ _ _ ∧ _
      obtain ⟨f1, f2⟩ := ft_e ok (u j)
      have f3 : rol v 6 8 (u j) = nI (ftN T (u j)) := by rw [← f1, ← hT]; rfl
      have f4 : ftN T (u j) * k ≤ 180 := Nat.le_trans (Nat.mul_le_mul f2 hk) (by decide)
      rw [L_X6_worth_9, if_neg (nI_nlt (by omega) (by omega)), if_neg (show ¬ (4 : Int32) ≤ nI j from nI_ge (a := j) (b := 4) (by omega) (by decide)), gd_t (inB_n (show j < 4 by omega) (by omega)), lt_v, gd_t (inB_n (show j < 4 by omega) (by omega)), nI_clamp (by omega), h3, bnd_r (v_X5_secondOf F v 6 (u j) h4), lt_v, lt_v, nI_1, f3, pk_mul, nI_add, show nI s.1 ||| ishlI 1 (nI (u j)) = nI (s.1 ||| 2 ^ u j) from by rw [nI_or, ← bit1_N (u j) h4]; rfl]
      exact ⟨v, rfl, rfl, by show s.2 + _ ≤ _; omega⟩)
    (i + 1) 0 (by omega) F (by omega) w (0, 0) ⟨rfl, by omega⟩
  subst e2
  refine (show L_X6_worth_9 F 5 (nI i) (nI k) (nI aim) _ F w2 0 0 0 = _ from e1).trans ?_
  have ef : ∀ m j s, j + m = i + 1 → s = (bsN u j, fsN T k u j) → foldU (fun j (s : Nat × Nat) => (s.1 ||| 2 ^ u j, s.2 + ftN T (u j) * k)) m j s = (bsN u (i + 1), fsN T k u (i + 1)) := by
    intro m
    induction m with
    | zero => intro j s hj hs; obtain rfl : j = i + 1 := by omega
              exact hs
    | succ m ih => intro j s hj hs; exact ih (j + 1) _ (by omega) (by rw [hs]; rfl)
  rw [ef (i + 1) 0 (0, 0) (by omega) rfl]
  unfold K_X6_worth_62 cst
  have hb := bsN_lt (u := u) (i + 1) (fun j hj => (hu j (by omega)).2)
  rcases (show aim = 0 ∨ aim = 1 ∨ aim = 2 by omega) with rfl | rfl | rfl
  · rfl
  · rw [if_pos (show nI 1 = 1 from rfl), if_pos rfl, bnd_r (v_bc F w2 _), bc_pc hb]
  · rfl
theorem isX1_st : ∀ i : Nat, i < 5 → isX1 (66 + 2 * i) = true := by decide
def RP (b : Nat) : Prop := b = 64 ∨ b = 65 ∨ (66 ≤ b ∧ b ≤ 75) ∨ Scr b
theorem Kp_RP : Kp RP := fun b hb => by
  unfold RP at hb
  rcases hb with h | h | h | h
  · omega
  · omega
  · omega
  · exact .inr (.inl h)
theorem RP_QP {b : Nat} (h : RP b) : QP b := by
  unfold RP at h
  unfold QP
  rcases h with h | h | h | h
  · omega
  · omega
  · omega
  · exact .inr (.inr (.inr (.inl h)))
theorem l_X6_goes {F : Nat} (hF : 100 ≤ F) {w : Wd} (okt : okT w 5) (y : Int32) (a : Nat) (ha : 23 ≤ a) (k : Nat) (hk : k < 2 ^ 31) (s : Int32) (kk : Wd → Option (Int32 × Wd)) : ∀ m j, j + m = k → ∀ n, m < n → ∀ v, Fr (fun b => Scr b ∨ b = a ∨ b = a + 1) w v → ∃ v2, L_X6_goes_55 F 5 y (nI k) a s kk n v (nI j) = kk v2 ∧ Fr (fun b => Scr b ∨ b = a ∨ b = a + 1) w v2 ∧ bC v2 a = gr (tC w 5) s m (bC v a) := by
  intro m
  induction m with
  | zero =>
    intro j hj n hn v hv
    obtain ⟨n, rfl⟩ : ∃ q, n = q + 1 := ⟨n - 1, by omega⟩
    obtain rfl : j = k := by omega
    rw [L_X6_goes_55, if_pos (Int32.le_refl _)]
    exact ⟨v, rfl, hv, rfl⟩
  | succ m ih =>
    intro j hj n hn v hv
    obtain ⟨n, rfl⟩ : ∃ q, n = q + 1 := ⟨n - 1, by omega⟩
    rw [L_X6_goes_55, if_neg (nI_ge (by omega) hk)]
    unfold gr
    show ∃ v2, (if bC v a 13 = s then _ else _) = _ ∧ _
    by_cases c : bC v a 13 = s
    · rw [if_pos c, if_pos c]
      have ok2 := okT_fr (Kp_ring ha) hv okt
      obtain ⟨v1, d1, d2, d3⟩ := v_X9_ring hF v 5 a ok2 ha
      rw [tC_fr (Kp_ring ha) hv okt] at d3
      rw [bnd_r d1, lt_v, nI_1]
      obtain ⟨v2, f1, f2, f3⟩ := ih (j + 1) (by omega) n (by omega) v1 (hv.tr d2 (fun _ h => h) (fun _ h => h))
      rw [d3] at f3
      exact ⟨v2, f1, f2, f3⟩
    · rw [if_neg c, if_neg c]
      exact ⟨v, rfl, hv, rfl⟩
theorem v_X6_goes {F : Nat} (hF : 100 ≤ F) {w : Wd} (okt : okT w 5) (i : Nat) (hi : i < 4) (k : Nat) (hk : k ≤ 20) (q : Nat) (hq : gI w 64 i = nI q) : ∃ w2, P_X6_goes F w 5 (nI i) (nI k) = some (if itC (tC w 5) k (setR (bC w (66 + 2 * i)) (bit1 q)) 13 = bC w (66 + 2 * i) 13 then 1 else 0, w2) ∧ Fr (fun b => Scr b ∨ b = 66 + 2 * (i + 1) ∨ b = 66 + 2 * (i + 1) + 1) w w2 ∧ (itC (tC w 5) k (setR (bC w (66 + 2 * i)) (bit1 q)) 13 = bC w (66 + 2 * i) 13 → bC w2 (66 + 2 * (i + 1)) = itC (tC w 5) k (setR (bC w (66 + 2 * i)) (bit1 q))) := by
  unfold P_X6_goes
  rw [if_neg (nI_pos (by omega)), if_pos (show nI i < 4 from nI_lt (a := i) (b := 4) hi (by decide)), nI_1, gd_t (inB_n (show i + 1 < 5 by omega) (by omega)), lt_v, nI_clamp (by omega), gd_t (isX1_st (i + 1) (by omega)), gd_t (inB_n (show i < 5 by omega) (by omega)), lt_v, nI_clamp (by omega), gd_t (isX1_st i (by omega))]
  generalize hA : 66 + 2 * (i + 1) = A
  generalize hB : 66 + 2 * i = B
  have hAB : A = B + 2 := by omega
  obtain ⟨w1, a1, a2, a3⟩ := v_X1_copy hF w A B (by omega) (by omega) (by omega)
  have p64 : gI w1 64 i = nI q := by rw [(a2 64 (by omega)).1]; exact hq
  rw [bnv_r a1, gd_t (inB_n (show i < 4 by omega) (by omega)), lt_v, lt_v, p64]
  have f1 : Fr (fun b => Scr b ∨ b = A ∨ b = A + 1) w (sI w1 A 1 (ishlI 1 (nI q))) := (a2.imp (fun b h => .inr h)).tr (Fr.ofI.imp (fun b h => .inr (.inl h))) (fun _ h => h) (fun _ h => h)
  have b1 : bC (sI w1 A 1 (ishlI 1 (nI q))) A = setR (bC w B) (bit1 q) := by rw [bC_rope, a3]; rfl
  have e6 : gI (sI w1 A 1 (ishlI 1 (nI q))) A 6 = bC w B 13 := by
    have : gI (sI w1 A 1 (ishlI 1 (nI q))) A 6 = bC (sI w1 A 1 (ishlI 1 (nI q))) A 13 := rfl
    rw [this, b1]
    rfl
  rw [e6]
  obtain ⟨w2, g1, g2, g3⟩ := l_X6_goes hF okt (nI i) A (by omega) k (by omega) (bC w B 13) (fun u  => K_X6_goes_84 F 5 (nI i) (nI k) u A (bC w B 13)) k 0 (by omega) F (by omega) _ f1
  rw [b1] at g3
  obtain ⟨h1, h2⟩ := gr_e (tC w 5) (bC w B 13) k (setR (bC w B) (bit1 q)) (by omega) rfl
  refine ⟨w2, ?_, g2, fun h => by rw [g3]; exact h2 (h1.mpr h)⟩
  refine (show L_X6_goes_55 F 5 (nI i) (nI k) A (bC w B 13) _ F _ 0 = _ from g1).trans ?_
  unfold K_X6_goes_84
  have e7 : gI w2 A 6 = gr (tC w 5) (bC w B 13) k (setR (bC w B) (bit1 q)) 13 := by rw [← g3]; rfl
  rw [lt_v, e7, gd_t isZO_j]
  by_cases c : itC (tC w 5) k (setR (bC w B) (bit1 q)) 13 = bC w B 13
  · rw [if_pos c, if_pos (h1.mpr c)]
  · rw [if_neg c, if_neg (fun e => c (h1.mp e))]
-- the search
def SS : Nat → Nat
  | 0 => 0
  | m + 1 => 8 * (1 + SS m) + 1
def fnd (o : Rb) : Int32 := match o with | none => -1 | some z => nI z.1
def okRb (o : Rb) : Prop := ∀ z, o = some z → z.1 ≤ 720
/-- the best row stands in the world -/
def bst (v : Wd) (n : Nat) (o : Rb) : Prop := ∀ z, o = some z → ∀ j, j < n → gI v 65 j = nI (z.2 j)
/-- what has come of it: on, or out -/
def sres (w v2 : Wd) (n : Nat) (o : Rb) : Prop := Fr RP w v2 ∧ okRb o ∧ bst v2 n o
theorem nob_e {o : Rb} (ho : okRb o) {a : Nat} (ha : a ≤ 720) : (nob o a = true → ¬ fnd o < 0 ∧ fnd o ≤ nI a) ∧ (¬ nob o a = true → fnd o < 0 ∨ ¬ fnd o ≤ nI a) := by
  cases o with
  | none => exact ⟨fun h => (by cases h), fun _ => .inl (by decide)⟩
  | some z =>
    have h := ho z rfl
    have e : nob (some z) a = decide (z.1 ≤ a) := rfl
    rw [e, decide_eq_true_eq]
    show (_ → ¬ nI z.1 < 0 ∧ nI z.1 ≤ nI a) ∧ (_ → nI z.1 < 0 ∨ ¬ nI z.1 ≤ nI a)
    exact ⟨fun q => ⟨nI_pos (by omega), nI_le q (by omega)⟩, fun q => .inr (nI_ge (by omega) (by omega))⟩
theorem ups_s (u : Nat → Nat) (i q : Nat) : ups u i q i = q := if_pos rfl
theorem ups_n {u : Nat → Nat} {i q j : Nat} (h : j ≠ i) : ups u i q j = u j := if_neg h
theorem SS_mono : ∀ m : Nat, m ≤ 4 → SS m ≤ 5265 := by decide
theorem l_X6_search {F : Nat} (hF : 2000 ≤ F) {w : Wd} (okt : okT w 5) {T : Tw} (hTe : tC w 5 = T) {r p N : Nat} (okw : okTw T r p N) (n : Nat) (hn : n ≤ 4) (k aim : Nat) (hk : k ≤ 20) (haim : aim ≤ 2) (kk : Wd → Int32 → Option (Int32 × Wd)) : ∀ m i, i + (m + 1) = n → ∀ d q0, q0 + d = r → ∀ (v : Wd) (u : Nat → Nat) (c : Bl) (o : Rb), Fr RP w v → gI v 64 i + 1 = nI q0 → (∀ j, j < i → gI v 64 j = nI (u j) ∧ u j < 8) → bC v (66 + 2 * i) = c → okRb o → bst v n o →
    ∃ t, t ≤ d * (1 + SS m) + 1 ∧ ∃ v2, Fr RP w v2 ∧ (match foldX (cq T r k aim (m + 1) i u c) d q0 o with
      | .inr o2 => (∀ M x, x + t ≤ 999999 → L_X6_search_26 F 5 23 (nI n) (nI k) (nI aim) kk (M + t) v (fnd o) (nI i) (nI x) = L_X6_search_26 F 5 23 (nI n) (nI k) (nI aim) kk M v2 (fnd o2) (nI i + (-1)) (nI (x + t))) ∧ (∀ j, j < i → gI v2 64 j = gI v 64 j) ∧ (∀ j, j ≤ i → bC v2 (66 + 2 * j) = bC v (66 + 2 * j)) ∧ okRb o2 ∧ bst v2 n o2
      | .inl z => (∀ M x, x + t ≤ 999999 → L_X6_search_26 F 5 23 (nI n) (nI k) (nI aim) kk (M + t) v (fnd o) (nI i) (nI x) = some (0, v2)) ∧ ∀ j, j < n → gI v2 65 j = nI (z j)) := by
  have hr := okw.1
  have er : gI w 6 2 = nI r := by rw [← okw.2.2.1, ← hTe]; rfl
  have s64 : ∀ {v v2 : Wd} {a : Nat} {y : Int32}, Fr RP w v → Fr RP w (sI v 64 a y) := fun h => h.tr (Fr.ofI.imp (fun b h => .inl h)) (fun _ h => h) (fun _ h => h)
  have e62 : ∀ {v : Wd}, Fr RP w v → gI v 6 2 = nI r := fun h => by rw [(h 6 (by unfold RP Scr; omega)).1]; exact er
  have b64 : ∀ (v : Wd) (a j : Nat) (y : Int32), bC (sI v 64 a y) (66 + 2 * j) = bC v (66 + 2 * j) := fun v a j y => bC_fr (p := fun b => b = 64) Fr.ofI (by omega) (by omega)
  intro m
  induction m using Nat.strongRecOn with
  | ind m ihm =>
  intro i hi d
  induction d with
  | zero =>
    intro q0 hq v u c o hv h64 hu hc ho hb
    obtain rfl : q0 = r := by omega
    refine ⟨1, by omega, sI v 64 i (nI q0), s64 (v2 := v) hv, ?_⟩
    show (∀ M x, x + 1 ≤ 999999 → _) ∧ _
    refine ⟨fun M x hx => ?_, fun j hj => gIk (by omega), fun j _ => b64 v i j _, ho, fun z hz j hj => by rw [gIa (by decide)]; exact hb z hz j hj⟩
    rw [L_X6_search_26, if_neg (show ¬ (1000000 : Int32) ≤ nI x from nI_ge (a := x) (b := 1000000) (by omega) (by decide)), if_neg (nI_pos (by omega)), if_neg (show ¬ (4 : Int32) ≤ nI i from nI_ge (a := i) (b := 4) (by omega) (by decide)), gd_t (inB_n (show i < 4 by omega) (by omega)), gd_t (inB_n (show i < 4 by omega) (by omega)), lt_v, nI_clamp (by omega), h64, gd_t (inB_n (show i < 4 by omega) (by omega)), gIs, e62 (s64 (v2 := v) hv), if_neg (Int32.lt_irrefl), lt_v]
    unfold K_X6_search_174
    rw [lt_v, nI_1]
  | succ d ihd =>
    intro q0 hq v u c o hv h64 hu hc ho hb
    have hi4 : i < 4 := by omega
    have hq8 : q0 < 8 := by omega
    have hv20 : Fr RP w (sI v 64 i (nI q0)) := s64 (v2 := v) hv
    have hu' : ∀ j, j ≤ i → gI (sI v 64 i (nI q0)) 64 j = nI (ups u i q0 j) ∧ ups u i q0 j < 8 := fun j hj => by
      by_cases hji : j = i
      · subst hji; rw [gIs, ups_s]; exact ⟨rfl, hq8⟩
      · rw [gIk hji, ups_n hji]; exact hu j (by omega)
    have hA := cst_le (aim := aim) okw hk (u := ups u i q0) (i := i + 1) (by omega) (fun j hj => (hu' j (by omega)).2)
    have hw20 := v_X6_worth (F := F) (by omega) okw (by rw [tC_fr Kp_RP hv20 okt]; exact hTe) i hi4 k aim hk haim (ups u i q0) hu'
    generalize hAe : cst T k aim (ups u i q0) (i + 1) = A at *
    obtain ⟨nb1, nb2⟩ := nob_e ho hA
    have hun : ∀ M x, x + 1 ≤ 999999 → L_X6_search_26 F 5 23 (nI n) (nI k) (nI aim) kk (M + 1) v (fnd o) (nI i) (nI x) = if fnd o < 0 then K_X6_search_103 F 5 23 (nI n) (nI k) (nI aim) kk (L_X6_search_26 F 5 23 (nI n) (nI k) (nI aim) kk M) (sI v 64 i (nI q0)) (fnd o) (nI i) (nI x) (nI A) else if fnd o ≤ nI A then L_X6_search_26 F 5 23 (nI n) (nI k) (nI aim) kk M (sI v 64 i (nI q0)) (fnd o) (nI i) (nI (x + 1)) else K_X6_search_103 F 5 23 (nI n) (nI k) (nI aim) kk (L_X6_search_26 F 5 23 (nI n) (nI k) (nI aim) kk M) (sI v 64 i (nI q0)) (fnd o) (nI i) (nI x) (nI A) := fun M x hx => by
      rw [L_X6_search_26, if_neg (show ¬ (1000000 : Int32) ≤ nI x from nI_ge (a := x) (b := 1000000) (by omega) (by decide)), if_neg (nI_pos (by omega)), if_neg (show ¬ (4 : Int32) ≤ nI i from nI_ge (a := i) (b := 4) (by omega) (by decide)), gd_t (inB_n (show i < 4 by omega) (by omega)), gd_t (inB_n (show i < 4 by omega) (by omega)), lt_v, nI_clamp (by omega), h64, gd_t (inB_n (show i < 4 by omega) (by omega)), gIs, e62 hv20, if_pos (nI_lt (by omega) (by omega)), bnd_r hw20]
      unfold K_X6_search_174
      rw [lt_v, nI_1]
    -- one step, and then on with the next
    have next : ∀ (v' : Wd) (o' : Rb), Fr RP w v' → gI v' 64 i = nI q0 → (∀ j, j < i → gI v' 64 j = gI v 64 j) → (∀ j, j ≤ i → bC v' (66 + 2 * j) = bC v (66 + 2 * j)) → okRb o' → bst v' n o' → ∀ t0, t0 ≤ 1 + SS m → (∀ M x, x + t0 ≤ 999999 → L_X6_search_26 F 5 23 (nI n) (nI k) (nI aim) kk (M + t0) v (fnd o) (nI i) (nI x) = L_X6_search_26 F 5 23 (nI n) (nI k) (nI aim) kk M v' (fnd o') (nI i) (nI (x + t0))) → foldX (cq T r k aim (m + 1) i u c) (d + 1) q0 o = foldX (cq T r k aim (m + 1) i u c) d (q0 + 1) o' →
        ∃ t, t ≤ (d + 1) * (1 + SS m) + 1 ∧ ∃ v2, Fr RP w v2 ∧ (match foldX (cq T r k aim (m + 1) i u c) (d + 1) q0 o with
      | .inr o2 => (∀ M x, x + t ≤ 999999 → L_X6_search_26 F 5 23 (nI n) (nI k) (nI aim) kk (M + t) v (fnd o) (nI i) (nI x) = L_X6_search_26 F 5 23 (nI n) (nI k) (nI aim) kk M v2 (fnd o2) (nI i + (-1)) (nI (x + t))) ∧ (∀ j, j < i → gI v2 64 j = gI v 64 j) ∧ (∀ j, j ≤ i → bC v2 (66 + 2 * j) = bC v (66 + 2 * j)) ∧ okRb o2 ∧ bst v2 n o2
      | .inl z => (∀ M x, x + t ≤ 999999 → L_X6_search_26 F 5 23 (nI n) (nI k) (nI aim) kk (M + t) v (fnd o) (nI i) (nI x) = some (0, v2)) ∧ ∀ j, j < n → gI v2 65 j = nI (z j)) := by
      intro v' o' h1 h2 h3 h4 h5 h6 t0 ht0 hL hX
      obtain ⟨t, ht, v2, g1, g2⟩ := ihd (q0 + 1) (by omega) v' u c o' h1 (by rw [h2, nI_1]) (fun j hj => by rw [h3 j hj]; exact hu j hj) (by rw [h4 i (Nat.le_refl _)]; exact hc) h5 h6
      refine ⟨t0 + t, ?_, v2, g1, ?_⟩
      · rw [Nat.add_mul]; omega
      · rw [hX]
        have hcomp : ∀ M x, x + (t0 + t) ≤ 999999 → L_X6_search_26 F 5 23 (nI n) (nI k) (nI aim) kk (M + (t0 + t)) v (fnd o) (nI i) (nI x) = L_X6_search_26 F 5 23 (nI n) (nI k) (nI aim) kk (M + t) v' (fnd o') (nI i) (nI (x + t0)) := fun M x hx => by
          rw [show M + (t0 + t) = (M + t) + t0 by omega, hL (M + t) x (by omega)]
        cases hres : foldX (cq T r k aim (m + 1) i u c) d (q0 + 1) o' with
        | inl z =>
          rw [hres] at g2
          refine ⟨fun M x hx => ?_, g2.2⟩
          rw [hcomp M x hx]
          exact g2.1 M (x + t0) (by omega)
        | inr o2 =>
          rw [hres] at g2
          obtain ⟨g3, g4, g5, g6, g7⟩ := g2
          refine ⟨fun M x hx => ?_, fun j hj => (g4 j hj).trans (h3 j hj), fun j hj => (g5 j hj).trans (h4 j hj), g6, g7⟩
          rw [hcomp M x hx, g3 M (x + t0) (by omega), show x + t0 + t = x + (t0 + t) by omega]
    have eX : ∀ s, cq T r k aim (m + 1) i u c q0 o = .inr s → foldX (cq T r k aim (m + 1) i u c) (d + 1) q0 o = foldX (cq T r k aim (m + 1) i u c) d (q0 + 1) s := fun s hs => by rw [foldX]; simp only [hs]
    have eXl : ∀ z, cq T r k aim (m + 1) i u c q0 o = .inl z → foldX (cq T r k aim (m + 1) i u c) (d + 1) q0 o = .inl z := fun z hz => by rw [foldX]; simp only [hz]
    by_cases hnob : nob o A = true
    · -- no better
      obtain ⟨k1, k2⟩ := nb1 hnob
      refine next (sI v 64 i (nI q0)) o hv20 gIs (fun j hj => gIk (by omega)) (fun j _ => b64 v i j _) ho (fun z hz j hj => by rw [gIa (by decide)]; exact hb z hz j hj) 1 (by omega) (fun M x hx => ?_) (eX o ?_)
      · rw [hun M x hx, if_neg k1, if_pos k2]
      · unfold cq; rw [hAe, if_pos hnob]
    · have hun2 : ∀ M x, x + 1 ≤ 999999 → L_X6_search_26 F 5 23 (nI n) (nI k) (nI aim) kk (M + 1) v (fnd o) (nI i) (nI x) = K_X6_search_103 F 5 23 (nI n) (nI k) (nI aim) kk (L_X6_search_26 F 5 23 (nI n) (nI k) (nI aim) kk M) (sI v 64 i (nI q0)) (fnd o) (nI i) (nI x) (nI A) := fun M x hx => by
        rw [hun M x hx]
        by_cases c1 : fnd o < 0
        · rw [if_pos c1]
        · rw [if_neg c1]
          rcases nb2 hnob with c2 | c2
          · exact absurd c2 c1
          · rw [if_neg c2]
      obtain ⟨v30, g1, g2, g3⟩ := v_X6_goes (F := F) (by omega) (okT_fr Kp_RP hv20 okt) i hi4 k hk q0 gIs
      rw [tC_fr Kp_RP hv20 okt, hTe, b64 v i i, hc] at g1 g3
      have hv30 : Fr RP w v30 := hv20.tr g2 (fun _ h => h) (fun b h => by
        unfold RP
        rcases h with h | h | h
        · exact .inr (.inr (.inr h))
        · exact .inr (.inr (.inl (by omega)))
        · exact .inr (.inr (.inl (by omega))))
      have g64 : ∀ j, gI v30 64 j = gI (sI v 64 i (nI q0)) 64 j := fun j => (g2 64 (by unfold Scr; omega)).1 j
      have g65 : ∀ j, gI v30 65 j = gI v 65 j := fun j => by rw [(g2 65 (by unfold Scr; omega)).1 j, gIa (by decide)]
      have gb : ∀ j, j ≤ i → bC v30 (66 + 2 * j) = bC v (66 + 2 * j) := fun j hj => by rw [bC_fr g2 (by unfold Scr; omega) (by unfold Scr; omega), b64]
      by_cases hgo : itC T k (setR c (bit1 q0)) 13 = c 13
      · rw [if_pos hgo] at g1
        have hc' := g3 hgo
        by_cases hm : m = 0
        · -- the last shift
          subst hm
          have hlast : ∀ M x, x + 1 ≤ 999999 → L_X6_search_26 F 5 23 (nI n) (nI k) (nI aim) kk (M + 1) v (fnd o) (nI i) (nI x) = K_X6_search_148 F 5 23 (nI n) (nI k) (nI aim) kk (L_X6_search_26 F 5 23 (nI n) (nI k) (nI aim) kk M) v30 (nI i) (nI x) (nI A) := fun M x hx => by
            rw [hun2 M x hx]
            unfold K_X6_search_103
            rw [bnd_r g1, if_neg (show ¬ (1 : Int32) = 0 by decide), nI_1, if_pos (nI_le (by omega) (by omega))]
          have h37 : ∀ j, j < 4 → gI (sA v30 65 (va_cpy (v30.1 64) (v30.1 65) 0 0 4)) 65 j = gI v30 64 j := fun j hj => by
            rw [gI_sA, if_pos rfl, pk_cpy_in (by omega) (by omega)]
            show v30.1 64 (0 + (j - 0)) = v30.1 64 j
            rw [Nat.zero_add, Nat.sub_zero]
          have f37 : Fr RP w (sA v30 65 (va_cpy (v30.1 64) (v30.1 65) 0 0 4)) := hv30.tr (Fr.ofA.imp (fun b h => .inr (.inl h))) (fun _ h => h) (fun _ h => h)
          have b37 : ∀ j, j < n → gI (sA v30 65 (va_cpy (v30.1 64) (v30.1 65) 0 0 4)) 65 j = nI (ups u i q0 j) := fun j hj => by rw [h37 j (by omega), g64]; exact (hu' j (by omega)).1
          by_cases haim0 : aim = 0
          · subst haim0
            have hA0 : A = 0 := by rw [← hAe]; rfl
            refine ⟨1, by omega, _, f37, ?_⟩
            rw [eXl (ups u i q0) (by unfold cq; rw [hAe, if_neg hnob, if_neg (not_not_intro hgo), if_pos rfl, if_pos rfl])]
            refine ⟨fun M x hx => ?_, b37⟩
            rw [hlast M x hx]
            unfold K_X6_search_148
            rw [lt_v, if_pos (show nI 0 = 0 from rfl), hA0]
            rfl
          · refine next _ (some (A, ups u i q0)) f37 (by rw [gI_sA, if_neg (by decide), g64, gIs]) (fun j hj => by rw [gI_sA, if_neg (by decide), g64, gIk (by omega)]) (fun j hj => by rw [bC_fr (p := fun b => b = 65) Fr.ofA (by omega) (by omega)]; exact gb j hj) (fun z hz => by cases hz; exact hA) (fun z hz j hj => by cases hz; exact b37 j hj) 1 (by omega) (fun M x hx => ?_) (eX _ (by unfold cq; rw [hAe, if_neg hnob, if_neg (not_not_intro hgo), if_pos rfl, if_neg haim0]))
            rw [hlast M x hx]
            unfold K_X6_search_148 K_X6_search_174
            rw [lt_v, if_neg (nI_ne0 (by omega) (by omega)), lt_v, nI_1]
            rfl
        · -- further shifts
          obtain ⟨m, rfl⟩ : ∃ q, m = q + 1 := ⟨m - 1, by omega⟩
          have h46 : Fr RP w (sI v30 64 (i + 1) (-1)) := s64 (v2 := v) hv30
          obtain ⟨t1, ht1, v2, a1, a2⟩ := ihm m (by omega) (i + 1) (by omega) r 0 (by omega) (sI v30 64 (i + 1) (-1)) (ups u i q0) (itC T k (setR c (bit1 q0))) o h46 (by rw [gIs]; decide) (fun j hj => by rw [gIk (by omega), g64]; exact hu' j (by omega)) (by rw [b64]; exact hc') ho (fun z hz j hj => by rw [gIa (by decide), g65]; exact hb z hz j hj)
          have hS : t1 + 1 ≤ 1 + SS (m + 1) := by
            have h1 : r * (1 + SS m) ≤ 8 * (1 + SS m) := Nat.mul_le_mul_right _ hr
            have h2 : SS (m + 1) = 8 * (1 + SS m) + 1 := rfl
            omega
          have hd1 : ∀ M x, x + 1 ≤ 999999 → L_X6_search_26 F 5 23 (nI n) (nI k) (nI aim) kk (M + 1) v (fnd o) (nI i) (nI x) = L_X6_search_26 F 5 23 (nI n) (nI k) (nI aim) kk M (sI v30 64 (i + 1) (-1)) (fnd o) (nI (i + 1)) (nI (x + 1)) := fun M x hx => by
            rw [hun2 M x hx]
            unfold K_X6_search_103
            rw [bnd_r g1, if_neg (show ¬ (1 : Int32) = 0 by decide), nI_1, if_neg (nI_ge (by omega) (by omega)), if_neg (show ¬ (4 : Int32) ≤ nI (i + 1) from nI_ge (a := i + 1) (b := 4) (by omega) (by decide)), lt_v, gd_t (inB_n (show i + 1 < 4 by omega) (by omega)), lt_v, nI_clamp (by omega)]
            unfold K_X6_search_174
            rw [lt_v, nI_1]
          have ecq : cq T r k aim (m + 1 + 1) i u c q0 o = foldX (cq T r k aim (m + 1) (i + 1) (ups u i q0) (itC T k (setR c (bit1 q0)))) r 0 o := by
            rw [cq, hAe, if_neg hnob, if_neg (not_not_intro hgo), if_neg (by omega)]
          cases hres : foldX (cq T r k aim (m + 1) (i + 1) (ups u i q0) (itC T k (setR c (bit1 q0)))) r 0 o with
          | inl z =>
            rw [hres] at a2
            refine ⟨t1 + 1, ?_, v2, a1, ?_⟩
            · rw [Nat.add_mul]; omega
            · rw [eXl z (by rw [ecq, hres])]
              refine ⟨fun M x hx => ?_, a2.2⟩
              rw [show M + (t1 + 1) = (M + t1) + 1 by omega, hd1 (M + t1) x (by omega)]
              exact a2.1 M (x + 1) (by omega)
          | inr o2 =>
            rw [hres] at a2
            obtain ⟨a3, a4, a5, a6, a7⟩ := a2
            refine next v2 o2 a1 (by rw [a4 i (by omega), gIk (by omega), g64, gIs]) (fun j hj => by rw [a4 j (by omega), gIk (by omega), g64, gIk (by omega)]) (fun j hj => by rw [a5 j (by omega), b64]; exact gb j hj) a6 a7 (t1 + 1) hS (fun M x hx => ?_) (eX o2 (by rw [ecq, hres]))
            rw [show M + (t1 + 1) = (M + t1) + 1 by omega, hd1 (M + t1) x (by omega), a3 M (x + 1) (by omega), pk_m1, show x + 1 + t1 = x + (t1 + 1) by omega]
      · -- it stops
        rw [if_neg hgo] at g1
        refine next v30 o hv30 (by rw [g64, gIs]) (fun j hj => by rw [g64, gIk (by omega)]) gb ho (fun z hz j hj => by rw [g65]; exact hb z hz j hj) 1 (by omega) (fun M x hx => ?_) (eX o ?_)
        · rw [hun2 M x hx]
          unfold K_X6_search_103 K_X6_search_174
          rw [bnd_r g1, if_pos rfl, lt_v, nI_1]
        · unfold cq; rw [hAe, if_neg hnob, if_pos hgo]
