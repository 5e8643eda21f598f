-- ===== rotas: both searches find the same =====
def rnC (T : Tw) (k : Nat) (b : Bl) (u : Nat → Nat) : Nat → Bl
  | 0 => b
  | j + 1 => itC T k (setR (rnC T k b u j) (bit1 (u j)))
def rnM (T : Tw) (k : Nat) (b : Bl) (u : Nat → Nat) : Nat → Bl
  | 0 => b
  | j + 1 => itM T k (setR (rnM T k b u j) (bit1 (u j)))
theorem it_15 (T : Tw) : ∀ n b b2, eq15 b b2 → eq15 (itC T n b) (itM T n b2) := by
  intro n
  induction n with
  | zero => intro b b2 h; exact h
  | succ n ih => intro b b2 h; exact ih _ _ (mi_15 h)
theorem rn_15 (T : Tw) (k : Nat) (b : Bl) (u : Nat → Nat) : ∀ j, eq15 (rnC T k b u j) (rnM T k b u j) := by
  intro j
  induction j with
  | zero => exact eq15_rfl b
  | succ j ih => exact it_15 T k _ _ (set_15 ih _)
theorem rnC_ext (T : Tw) (k : Nat) (b : Bl) {u v : Nat → Nat} : ∀ j, (∀ l, l < j → u l = v l) → rnC T k b u j = rnC T k b v j := by
  intro j
  induction j with
  | zero => intro _; rfl
  | succ j ih =>
    intro h
    show itC T k (setR (rnC T k b u j) (bit1 (u j))) = itC T k (setR (rnC T k b v j) (bit1 (v j)))
    rw [ih (fun l hl => h l (by omega)), h j (by omega)]
/-- it goes on in a shift -/
def goA (T : Tw) (k : Nat) (b : Bl) (u : Nat → Nat) (j : Nat) : Prop := itC T k (setR (rnC T k b u j) (bit1 (u j))) 13 = rnC T k b u j 13
theorem goA_ext {T : Tw} {k : Nat} {b : Bl} {u v : Nat → Nat} {j : Nat} (h : ∀ l, l < j + 1 → u l = v l) : goA T k b u j ↔ goA T k b v j := by
  unfold goA
  rw [rnC_ext T k b j (fun l hl => h l (by omega)), h j (by omega)]
abbrev fine (T : Tw) (k : Nat) (b : Bl) (u : Nat → Nat) (n : Nat) : Prop := rnM T k b u n 13 = b 13
theorem rn_13 (T : Tw) (k : Nat) (hk : k ≤ 20) (b : Bl) (u : Nat → Nat) : ∀ n, ∃ D : Nat, D ≤ k * n ∧ rnC T k b u n 13 = b 13 + nI D ∧ (D = 0 ↔ ∀ j, j < n → goA T k b u j) := by
  intro n
  induction n with
  | zero => exact ⟨0, by omega, (add0 _).symm, ⟨fun _ j hj => absurd hj (Nat.not_lt_zero _), fun _ => rfl⟩⟩
  | succ n ih =>
    obtain ⟨D, h1, h2, h3⟩ := ih
    obtain ⟨e, e1, e2⟩ := itC_13 T k (setR (rnC T k b u n) (bit1 (u n)))
    have e3 : itC T k (setR (rnC T k b u n) (bit1 (u n))) 13 = rnC T k b u n 13 + nI e := e2
    refine ⟨D + e, by rw [Nat.mul_add]; omega, ?_, ?_⟩
    · show itC T k (setR (rnC T k b u n) (bit1 (u n))) 13 = _
      rw [e3, h2, addA, nI_add]
    · refine ⟨fun h => ?_, fun h => ?_⟩
      · have hD : D = 0 := by omega
        have he : e = 0 := by omega
        intro j hj
        by_cases hjn : j = n
        · subst hjn
          show itC T k (setR (rnC T k b u j) (bit1 (u j))) 13 = _
          rw [e3, he]; exact add0 _
        · exact h3.mp hD j (by omega)
      · have hD : D = 0 := h3.mpr (fun j hj => h j (by omega))
        have hg : itC T k (setR (rnC T k b u n) (bit1 (u n))) 13 = rnC T k b u n 13 := h n (by omega)
        rw [e3] at hg
        have := addN_0 (by omega) hg
        omega
theorem fine_go {T : Tw} {k : Nat} (hk : k ≤ 20) {b : Bl} {u : Nat → Nat} {n : Nat} (hn : n ≤ 4) : fine T k b u n ↔ ∀ j, j < n → goA T k b u j := by
  obtain ⟨D, h1, h2, h3⟩ := rn_13 T k hk b u n
  unfold fine
  rw [rn_15 T k b u n 13 (by decide), h2]
  have hD : D ≤ 80 := Nat.le_trans h1 (Nat.mul_le_mul hk hn)
  refine ⟨fun h => h3.mp (addN_0 (by omega) h), fun h => ?_⟩
  rw [h3.mpr h]
  exact add0 _
/-- what the model comes to, trying all -/
def mq (T : Tw) (r k aim : Nat) (b : Bl) (n : Nat) : Nat → Nat → (Nat → Nat) → Rb → Rb
  | 0, _, u, o => if nob o (cst T k aim u n) = true then o else if rnM T k b u n 13 = b 13 then some (cst T k aim u n, u) else o
  | m + 1, i, u, o => foldU (fun q o => mq T r k aim b n m (i + 1) (ups u i q) o) r 0 o
theorem nob_mono {o : Rb} {x y : Nat} (h : x ≤ y) (hx : nob o x = true) : nob o y = true := by
  cases o with
  | none => cases hx
  | some z =>
    have e : ∀ a, nob (some z) a = decide (z.1 ≤ a) := fun _ => rfl
    rw [e, decide_eq_true_eq] at hx ⊢
    omega
theorem ups_b {u : Nat → Nat} {i q B : Nat} (hu : ∀ j, j < i → u j < B) (hq : q < B) : ∀ j, j < i + 1 → ups u i q j < B := fun j hj => by
  by_cases h : j = i
  · subst h; rw [ups_s]; exact hq
  · rw [ups_n h]; exact hu j (by omega)
theorem mq_nob {T : Tw} {r k aim : Nat} {b : Bl} {n : Nat} (hr : r ≤ 8) : ∀ m i u o, i + m = n → (∀ j, j < i → u j < r) → nob o (cst T k aim u i) = true → mq T r k aim b n m i u o = o := by
  intro m
  induction m with
  | zero => intro i u o hi _ h; obtain rfl : i = n := by omega
            exact if_pos h
  | succ m ih =>
    intro i u o hi hu h
    show foldU (fun q o => mq T r k aim b n m (i + 1) (ups u i q) o) r 0 o = o
    have key : ∀ m' j, j + m' ≤ r → foldU (fun q o => mq T r k aim b n m (i + 1) (ups u i q) o) m' j o = o := by
      intro m'
      induction m' with
      | zero => intro j _; rfl
      | succ m' ih' =>
        intro j hj
        show foldU _ m' (j + 1) (mq T r k aim b n m (i + 1) (ups u i j) o) = o
        have hb := ups_b hu (show j < r by omega)
        rw [ih (i + 1) (ups u i j) o (by omega) hb (nob_mono (by
          rw [cst_ext (u := u) (v := ups u i j) i (fun l hl => (ups_n (by omega)).symm)]
          exact cst_mono i (fun l hl => by have := hb l hl; omega)) h)]
        exact ih' (j + 1) (by omega)
    exact key r 0 (by omega)
theorem mq_bad {T : Tw} {r k aim : Nat} (hk : k ≤ 20) {b : Bl} {n : Nat} (hn : n ≤ 4) : ∀ m i u o, i + m = n → (∃ j, j < i ∧ ¬ goA T k b u j) → mq T r k aim b n m i u o = o := by
  intro m
  induction m with
  | zero =>
    intro i u o hi h
    obtain rfl : i = n := by omega
    obtain ⟨j, h1, h2⟩ := h
    show (if nob o (cst T k aim u i) = true then o else if fine T k b u i then some (cst T k aim u i, u) else o) = o
    split
    · rfl
    · rw [if_neg (fun hf => h2 ((fine_go hk hn).mp hf j h1))]
  | succ m ih =>
    intro i u o hi h
    obtain ⟨j, h1, h2⟩ := h
    refine foldU_id _ r 0 o (fun q s _ _ => ?_)
    refine ih (i + 1) (ups u i q) s (by omega) ⟨j, by omega, fun hg => h2 ((goA_ext (fun l hl => ?_)).mp hg)⟩
    exact ups_n (by omega)
theorem foldX_inr {σ ρ : Type} {f : Nat → σ → Sum ρ σ} {g : Nat → σ → σ} : ∀ m j s, (∀ i s, j ≤ i → i < j + m → f i s = .inr (g i s)) → foldX f m j s = .inr (foldU g m j s) := by
  intro m
  induction m with
  | zero => intro j s _; rfl
  | succ m ih =>
    intro j s h
    rw [foldX]
    simp only [h j s (Nat.le_refl _) (by omega)]
    exact ih (j + 1) _ (fun i s h1 h2 => h i s (by omega) (by omega))
theorem cq_mq {T : Tw} {r k aim : Nat} (hr : r ≤ 8) (hk : k ≤ 20) (haim : aim ≠ 0) {b : Bl} {n : Nat} (hn : n ≤ 4) : ∀ m i u q o, i + (m + 1) = n → (∀ j, j < i → u j < r) → q < r → (∀ j, j < i → goA T k b u j) → cq T r k aim (m + 1) i u (rnC T k b u i) q o = .inr (mq T r k aim b n m (i + 1) (ups u i q) o) := by
  intro m
  induction m with
  | zero =>
    intro i u q o hi hu hq hg
    have hb := ups_b hu hq
    have e1 : rnC T k b (ups u i q) i = rnC T k b u i := rnC_ext T k b i (fun l hl => ups_n (by omega))
    have hgi : goA T k b (ups u i q) i ↔ itC T k (setR (rnC T k b u i) (bit1 q)) 13 = rnC T k b u i 13 := by
      unfold goA
      rw [e1, ups_s]
    unfold cq
    by_cases c1 : nob o (cst T k aim (ups u i q) (i + 1)) = true
    · rw [if_pos c1, mq_nob hr 0 (i + 1) _ o (by omega) hb c1]
    · rw [if_neg c1]
      by_cases c2 : itC T k (setR (rnC T k b u i) (bit1 q)) 13 = rnC T k b u i 13
      · rw [if_neg (not_not_intro c2), if_pos rfl, if_neg haim]
        obtain rfl : i + 1 = n := by omega
        show _ = Sum.inr (if nob o (cst T k aim (ups u i q) (i + 1)) = true then o else if fine T k b (ups u i q) (i + 1) then some (cst T k aim (ups u i q) (i + 1), ups u i q) else o)
        rw [if_neg c1, if_pos ((fine_go hk hn).mpr (fun j hj => ?_))]
        by_cases hji : j = i
        · subst hji; exact hgi.mpr c2
        · exact (goA_ext (fun l hl => (ups_n (by omega)).symm)).mp (hg j (by omega))
      · rw [if_pos c2, mq_bad hk hn 0 (i + 1) _ o (by omega) ⟨i, by omega, fun h => c2 (hgi.mp h)⟩]
  | succ m ih =>
    intro i u q o hi hu hq hg
    have hb := ups_b hu hq
    have e1 : rnC T k b (ups u i q) i = rnC T k b u i := rnC_ext T k b i (fun l hl => ups_n (by omega))
    have hgi : goA T k b (ups u i q) i ↔ itC T k (setR (rnC T k b u i) (bit1 q)) 13 = rnC T k b u i 13 := by
      unfold goA
      rw [e1, ups_s]
    rw [cq]
    by_cases c1 : nob o (cst T k aim (ups u i q) (i + 1)) = true
    · rw [if_pos c1, mq_nob hr (m + 1) (i + 1) _ o (by omega) hb c1]
    · rw [if_neg c1]
      by_cases c2 : itC T k (setR (rnC T k b u i) (bit1 q)) 13 = rnC T k b u i 13
      · rw [if_neg (not_not_intro c2), if_neg (by omega)]
        have e2 : itC T k (setR (rnC T k b u i) (bit1 q)) = rnC T k b (ups u i q) (i + 1) := by
          show _ = itC T k (setR (rnC T k b (ups u i q) i) (bit1 (ups u i q i)))
          rw [e1, ups_s]
        rw [e2]
        refine foldX_inr r 0 o (fun q' s _ h2 => ih (i + 1) (ups u i q) q' s (by omega) hb (by omega) (fun j hj => ?_))
        by_cases hji : j = i
        · subst hji; exact hgi.mpr c2
        · exact (goA_ext (fun l hl => (ups_n (by omega)).symm)).mp (hg j (by omega))
      · rw [if_pos c2, mq_bad hk hn (m + 1) (i + 1) _ o (by omega) ⟨i, by omega, fun h => c2 (hgi.mp h)⟩]
/-- the model's way to the first that goes -/
def aq (T : Tw) (r k : Nat) (b : Bl) (n : Nat) : Nat → Nat → (Nat → Nat) → Sum (Nat → Nat) Unit
  | 0, _, u => if rnM T k b u n 13 = b 13 then .inl u else .inr ()
  | m + 1, i, u => foldX (fun q (_ : Unit) => aq T r k b n m (i + 1) (ups u i q)) r 0 ()
def lift (x : Sum (Nat → Nat) Unit) : Sum (Nat → Nat) Rb := match x with
  | .inl z => .inl z
  | .inr _ => .inr none
theorem aq_bad {T : Tw} {r k : Nat} (hk : k ≤ 20) {b : Bl} {n : Nat} (hn : n ≤ 4) : ∀ m i u, i + m = n → (∃ j, j < i ∧ ¬ goA T k b u j) → aq T r k b n m i u = .inr () := by
  intro m
  induction m with
  | zero =>
    intro i u hi h
    obtain rfl : i = n := by omega
    obtain ⟨j, h1, h2⟩ := h
    exact if_neg (fun hf => h2 ((fine_go hk hn).mp hf j h1))
  | succ m ih =>
    intro i u hi h
    obtain ⟨j, h1, h2⟩ := h
    refine (foldX_inr (g := fun _ s => s) r 0 () (fun q s _ _ => ?_)).trans rfl
    exact ih (i + 1) (ups u i q) (by omega) ⟨j, by omega, fun hg => h2 ((goA_ext (fun l hl => ups_n (by omega))).mp hg)⟩
theorem foldX_lift (f : Nat → Unit → Sum (Nat → Nat) Unit) (g : Nat → Rb → Sum (Nat → Nat) Rb) : ∀ m j, (∀ i, j ≤ i → i < j + m → g i none = lift (f i ())) → foldX g m j none = lift (foldX f m j ()) := by
  intro m
  induction m with
  | zero => intro j _; rfl
  | succ m ih =>
    intro j h
    have h0 := h j (Nat.le_refl _) (by omega)
    rw [foldX, foldX]
    cases hf : f j () with
    | inl z =>
      rw [hf] at h0
      simp only [h0, lift]
    | inr t =>
      rw [hf] at h0
      simp only [h0, lift]
      exact ih (j + 1) (fun i h1 h2 => h i (by omega) (by omega))
theorem cq_aq {T : Tw} {r k : Nat} (hk : k ≤ 20) {b : Bl} {n : Nat} (hn : n ≤ 4) : ∀ m i u q, i + (m + 1) = n → (∀ j, j < i → goA T k b u j) → cq T r k 0 (m + 1) i u (rnC T k b u i) q none = lift (aq T r k b n m (i + 1) (ups u i q)) := by
  intro m
  induction m with
  | zero =>
    intro i u q hi hg
    have e1 : rnC T k b (ups u i q) i = rnC T k b u i := rnC_ext T k b i (fun l hl => ups_n (by omega))
    have hgi : goA T k b (ups u i q) i ↔ itC T k (setR (rnC T k b u i) (bit1 q)) 13 = rnC T k b u i 13 := by
      unfold goA
      rw [e1, ups_s]
    unfold cq
    rw [if_neg (show ¬ nob none (cst T k 0 (ups u i q) (i + 1)) = true from fun h => by cases h)]
    by_cases c2 : itC T k (setR (rnC T k b u i) (bit1 q)) 13 = rnC T k b u i 13
    · rw [if_neg (not_not_intro c2), if_pos rfl, if_pos rfl]
      obtain rfl : i + 1 = n := by omega
      show _ = lift (if fine T k b (ups u i q) (i + 1) then .inl (ups u i q) else .inr ())
      rw [if_pos ((fine_go hk hn).mpr (fun j hj => ?_))]
      · rfl
      · by_cases hji : j = i
        · subst hji; exact hgi.mpr c2
        · exact (goA_ext (fun l hl => (ups_n (by omega)).symm)).mp (hg j (by omega))
    · rw [if_pos c2, aq_bad hk hn 0 (i + 1) _ (by omega) ⟨i, by omega, fun h => c2 (hgi.mp h)⟩]
      rfl
  | succ m ih =>
    intro i u q hi hg
    have e1 : rnC T k b (ups u i q) i = rnC T k b u i := rnC_ext T k b i (fun l hl => ups_n (by omega))
    have hgi : goA T k b (ups u i q) i ↔ itC T k (setR (rnC T k b u i) (bit1 q)) 13 = rnC T k b u i 13 := by
      unfold goA
      rw [e1, ups_s]
    rw [cq, if_neg (show ¬ nob none (cst T k 0 (ups u i q) (i + 1)) = true from fun h => by cases h)]
    by_cases c2 : itC T k (setR (rnC T k b u i) (bit1 q)) 13 = rnC T k b u i 13
    · rw [if_neg (not_not_intro c2), if_neg (by omega)]
      have e2 : itC T k (setR (rnC T k b u i) (bit1 q)) = rnC T k b (ups u i q) (i + 1) := by
        show _ = itC T k (setR (rnC T k b (ups u i q) i) (bit1 (ups u i q i)))
        rw [e1, ups_s]
      rw [e2]
      refine foldX_lift _ _ r 0 (fun q' _ h2 => ih (i + 1) (ups u i q) q' (by omega) (fun j hj => ?_))
      by_cases hji : j = i
      · subst hji; exact hgi.mpr c2
      · exact (goA_ext (fun l hl => (ups_n (by omega)).symm)).mp (hg j (by omega))
    · rw [if_pos c2, aq_bad hk hn (m + 1) (i + 1) _ (by omega) ⟨i, by omega, fun h => c2 (hgi.mp h)⟩]
      rfl
