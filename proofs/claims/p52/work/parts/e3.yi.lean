-- ===== a watch told by the law =====
def CL (l : List Int32) : Prop := ∀ j : Nat, ∃ c, c < 128 ∧ l.getD j 0 = nI c
theorem CL_app {l m : List Int32} (h1 : CL l) (h2 : CL m) : CL (l ++ m) := by
  intro j
  by_cases c : j < l.length
  · rw [getD_l c]; exact h1 j
  · rw [show j = l.length + (j - l.length) by omega, getD_r]; exact h2 _
theorem CL_nil : CL [] := fun j => ⟨0, by decide, rfl⟩
theorem CL_cons {c : Nat} {l : List Int32} (hc : c < 128) (h : CL l) : CL (nI c :: l) := by
  intro j
  cases j with
  | zero => exact ⟨c, hc, rfl⟩
  | succ j => exact h j
theorem CL_dg {v : Nat} (h : v < 100) : CL (dgL v) := by
  unfold dgL
  split
  · exact CL_cons (by omega) CL_nil
  · exact CL_cons (by omega) (CL_cons (by omega) CL_nil)
theorem CL_tx {x : Nat × Nat × Nat} (h : okA x) : CL (txA x) := by
  obtain ⟨-, h2, h3⟩ := h
  unfold txA
  split
  · exact CL_cons (c := 116) (by decide) (CL_cons (by omega) CL_nil)
  · split
    · exact CL_cons (c := 108) (by decide) (CL_cons (by omega) CL_nil)
    · split
      · exact CL_cons (c := 99) (by decide) (CL_cons (by omega) (CL_cons (by omega) CL_nil))
      · split
        · exact CL_cons (c := 109) (by decide) (CL_cons (by omega) CL_nil)
        · exact CL_dg (by omega)
theorem CL_ln : ∀ l, (∀ x, x ∈ l → okA x) → CL (lnL l) := by
  intro l
  induction l with
  | nil => intro _; exact CL_nil
  | cons x l ih =>
    intro h
    cases l with
    | nil => exact CL_tx (h x List.mem_cons_self)
    | cons y l => exact CL_app (CL_tx (h x List.mem_cons_self)) (CL_cons (c := 59) (by decide) (ih (fun z hz => h z (List.mem_cons_of_mem _ hz))))
theorem CL_fit {l : List Int32} (h : CL l) : ∀ i : Nat, fits .byte (.int (l.getD i 0)) = true := fun i => by
  obtain ⟨c, c1, c2⟩ := h i
  rw [c2]; exact fit_b c c1
theorem CL_kt {S : Sx} {k : Nat} (hk : k < 14) : CL (ktS S k).2.2 := kt_b k hk
def sepK (k : Nat) : List Int32 := if k = 0 then [] else [59]
theorem CL_sep (k : Nat) : CL (sepK k) := by
  unfold sepK
  split
  · exact CL_nil
  · exact CL_cons (c := 59) (by decide) CL_nil
theorem sep_len (k : Nat) : (sepK k).length ≤ 1 := by unfold sepK; split <;> exact Nat.le_of_ble_eq_true rfl
theorem ln_len : ∀ l, (∀ x, x ∈ l → okA x) → (lnL l).length ≤ 4 * l.length - 1 := by
  intro l
  induction l with
  | nil => intro _; exact Nat.le_refl _
  | cons x l ih =>
    intro h
    have h1 := (tx_len (h x List.mem_cons_self)).2
    cases l with
    | nil => show (txA x).length ≤ 3; exact h1
    | cons y l =>
      have h2 := ih (fun z hz => h z (List.mem_cons_of_mem _ hz))
      show (txA x ++ 59 :: lnL (y :: l)).length ≤ _
      rw [List.length_append, List.length_cons]
      simp only [List.length_cons] at h2 ⊢
      omega
theorem ln_one {l : List (Nat × Nat × Nat)} (h : l ≠ []) (hok : ∀ x, x ∈ l → okA x) : 1 ≤ (lnL l).length := by
  cases l with
  | nil => exact absurd rfl h
  | cons x l =>
    have h1 := (tx_len (hok x List.mem_cons_self)).1
    cases l with
    | nil => exact h1
    | cons y l =>
      show 1 ≤ (txA x ++ 59 :: lnL (y :: l)).length
      rw [List.length_append]; omega
theorem ln_next {l : List (Nat × Nat × Nat)} {k : Nat} (hl : l.length = k) (x : Nat × Nat × Nat) : (lnL l ++ sepK k) ++ txA x = lnL (l ++ [x]) := by
  unfold sepK
  by_cases c : k = 0
  · rw [if_pos c]
    have : l = [] := List.eq_nil_of_length_eq_zero (by omega)
    subst this
    rfl
  · rw [if_neg c, lnL_snoc x l (fun z => by rw [z] at hl; exact c hl.symm), List.append_assoc]
    rfl
theorem tx_0 {S : Sx} {X : List Int32} {a b : Nat} (ha : a < 8) : (X ++ (ktS S 3).2.2) ++ dgL a = X ++ txA (0, a, b) := by
  rw [List.append_assoc]; congr 1; unfold dgL; rw [if_pos (by omega)]; rfl
theorem tx_1 {S : Sx} {X : List Int32} {a b : Nat} (ha : a < 8) : (X ++ (ktS S 4).2.2) ++ dgL a = X ++ txA (1, a, b) := by
  rw [List.append_assoc]; congr 1; unfold dgL; rw [if_pos (by omega)]; rfl
theorem tx_2 {S : Sx} {X : List Int32} {a b : Nat} (ha : a < 8) (hb : b < 8) : ((X ++ (ktS S 5).2.2) ++ dgL a) ++ dgL b = X ++ txA (2, a, b) := by
  rw [List.append_assoc, List.append_assoc]; congr 1; unfold dgL; rw [if_pos (by omega), if_pos (by omega)]; rfl
theorem tx_3 {S : Sx} {X : List Int32} {a b : Nat} (hb : b < 8) : (X ++ (ktS S 6).2.2) ++ dgL b = X ++ txA (3, a, b) := by
  rw [List.append_assoc]; congr 1; unfold dgL; rw [if_pos (by omega)]; rfl
theorem tx_4 {X : List Int32} {a b : Nat} : X ++ dgL (3 * b) = X ++ txA (4, a, b) := rfl
theorem axP_Bl {T : Tw} {r p N K : Nat} (ok : okTw T r p N) {q : Bl} (h : BlI q r p K) (x : Nat × Nat × Nat) : ∃ K2, BlI (axP T r x q).2 r p K2 := by
  unfold axP
  split
  · exact ⟨_, BlI_tk ok.1 h _⟩
  · split
    · exact ⟨_, BlI_lv ok.1 h _⟩
    · split
      · exact ⟨_, BlI_rv ok.1 h _ _⟩
      · split
        · exact ⟨_, (BlI_mn h _).1⟩
        · exact ⟨_, (BlI_ps ok h _).1⟩
theorem min_neg {x y : Int32} : minI x y < 0 ↔ x < 0 ∨ y < 0 := by
  unfold minI
  by_cases c : y < x
  · rw [if_pos c]
    refine ⟨.inr, fun h => h.elim (fun h => Int32.lt_trans c h) id⟩
  · rw [if_neg c]
    refine ⟨.inl, fun h => h.elim id (fun h => Int32.lt_of_le_of_lt (Int32.not_lt.mp c) h)⟩
theorem lvR {r p K : Nat} {q : Bl} (hq : BlI q r p K) (hr : r ≤ 8) {x : Int32} (h : (lvP r q x).1 < 0) : (lvP r q x).2 = q := by
  obtain ⟨s, s1, s2, s3⟩ := hq.2.1
  have h8 := p256 hr s1
  unfold lvP at h ⊢
  by_cases h1 : x < 0
  · rw [if_pos h1]
  · rw [if_neg h1] at h ⊢
    by_cases h2 : nI r ≤ x
    · rw [if_pos h2]
    · rw [if_neg h2] at h ⊢
      obtain ⟨j, hj, rfl⟩ := ix_of h1 h2 hr
      rw [nI_clamp (by omega), s3] at h ⊢
      by_cases h3 : bt (nI s) j = 0
      · rw [if_pos h3]
      · rw [if_neg h3] at h
        exact absurd h ((by decide +kernel : ∀ s, s < 256 → ∀ j, j < 8 → ¬ bc (nI s &&& (bit1 j ^^^ (-1))) < 0) s h8 j (by omega))
theorem rv_c {r p K : Nat} {q : Bl} (hq : BlI q r p K) (hr : r ≤ 8) {x y : Int32} : (minI (lvP r q x).1 (tkP r (lvP r q x).2 y).1 < 0 ↔ (rvP r q x y).1 < 0) ∧ ((rvP r q x y).1 < 0 → (rvP r q x y).2 = q) ∧ (¬ (rvP r q x y).1 < 0 → (rvP r q x y).2 = (tkP r (lvP r q x).2 y).2) := by
  rw [min_neg]
  unfold rvP
  by_cases c : (lvP r q x).1 < 0
  · rw [if_pos c]
    exact ⟨⟨fun _ => c, fun _ => .inl c⟩, fun _ => lvR hq hr c, fun z => absurd c z⟩
  · rw [if_neg c]
    by_cases c2 : (tkP r (lvP r q x).2 y).1 < 0
    · rw [if_pos c2]
      exact ⟨⟨fun _ => c2, fun _ => .inr c2⟩, fun _ => rfl, fun z => absurd c2 z⟩
    · rw [if_neg c2]
      exact ⟨⟨fun z => z.elim (fun z => absurd z c) id, fun z => absurd z c2⟩, fun z => absurd z c2, fun _ => rfl⟩
theorem acts_of {x y : Int32} (hx : x = 0 ∨ x = 1) (hy : y = 0 ∨ y = 1) : ∃ m, 1 ≤ m ∧ m ≤ 3 ∧ 1 + x + y = nI m := by
  rcases hx with rfl | rfl <;> rcases hy with rfl | rfl
  · exact ⟨1, by decide, by decide, by decide⟩
  · exact ⟨2, by decide, by decide, by decide⟩
  · exact ⟨2, by decide, by decide, by decide⟩
  · exact ⟨3, by decide, by decide, by decide⟩
