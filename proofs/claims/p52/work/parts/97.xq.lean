-- ===== a rule's text: what waits, put down =====
def flC : List Int32 → List Int32 → List Int32
  | [], C => C
  | x :: P, C => flC P ((1010 + x) :: C)
theorem rel_fl (r : Nat) : ∀ (P : List Int32) (W C : List Int32), (∀ x, x ∈ P → r ≤ rkN x) → relW r (P ++ W) = relW r W ∧ relC r (P ++ W) C = relC r W (flC P C) := by
  intro P
  induction P with
  | nil => intro W C _; exact ⟨rfl, rfl⟩
  | cons x P ih =>
    intro W C h
    have hx : ¬ rkN x < r := Nat.not_lt.mpr (h x (List.mem_cons_self ..))
    have := ih W ((1010 + x) :: C) (fun y hy => h y (List.mem_cons_of_mem _ hy))
    show relW r (x :: (P ++ W)) = _ ∧ relC r (x :: (P ++ W)) C = relC r W (flC P ((1010 + x) :: C))
    rw [relW, relC, if_neg hx, if_neg hx]
    exact this
/-- nothing below is moved where the first of it binds less -/
theorem rel_stop (r : Nat) (W C : List Int32) (h : ∀ x W', W = x :: W' → rkN x < r) : relW r W = W ∧ relC r W C = C := by
  cases W with
  | nil => exact ⟨rfl, rfl⟩
  | cons x W =>
    have := h x W rfl
    rw [relW, relC, if_pos this, if_pos this]
    exact ⟨rfl, rfl⟩
theorem fl_len : ∀ (P C : List Int32), (flC P C).length = P.length + C.length := by
  intro P
  induction P with
  | nil => intro C; exact (Nat.zero_add _).symm
  | cons x P ih =>
    intro C
    rw [flC, ih]
    show P.length + (C.length + 1) = P.length + 1 + C.length
    omega
theorem fl_app : ∀ (P Q C : List Int32), flC (P ++ Q) C = flC Q (flC P C) := by
  intro P
  induction P with
  | nil => intro Q C; rfl
  | cons x P ih => intro Q C; exact ih Q _
theorem trc_neg : trc (1010 + 126) = 3000 := by decide
/-- the operations of a rank, by their signs -/
theorem op_sg (k : Nat) (hk : k < 3) (x : Int32) (h : ¬ amO (opA k) x < 0) : (k = 0 → (x = 60 ∨ x = 62 ∨ x = 61)) ∧ (k = 1 → (x = 43 ∨ x = 45)) ∧ (k = 2 → (x = 42 ∨ x = 47)) ∧ rkN x = k + 1 ∧ trc (1010 + x) = 2000 + amO (opA k) x + opC k := by
  rcases (show k = 0 ∨ k = 1 ∨ k = 2 by omega) with rfl | rfl | rfl
  · have e : amO (opA 0) x = if (60 : Int32) = x then 0 else if (62 : Int32) = x then 1 else if (61 : Int32) = x then 2 else -1 := rfl
    rw [e] at h ⊢
    by_cases c1 : (60 : Int32) = x
    · subst c1; exact ⟨fun _ => .inl rfl, fun z => absurd z (by decide), fun z => absurd z (by decide), by decide, by decide⟩
    rw [if_neg c1] at h ⊢
    by_cases c2 : (62 : Int32) = x
    · subst c2; exact ⟨fun _ => .inr (.inl rfl), fun z => absurd z (by decide), fun z => absurd z (by decide), by decide, by decide⟩
    rw [if_neg c2] at h ⊢
    by_cases c3 : (61 : Int32) = x
    · subst c3; exact ⟨fun _ => .inr (.inr rfl), fun z => absurd z (by decide), fun z => absurd z (by decide), by decide, by decide⟩
    rw [if_neg c3] at h
    exact absurd (by decide) h
  · have e : amO (opA 1) x = if (43 : Int32) = x then 0 else if (45 : Int32) = x then 1 else -1 := rfl
    rw [e] at h ⊢
    by_cases c1 : (43 : Int32) = x
    · subst c1; exact ⟨fun z => absurd z (by decide), fun _ => .inl rfl, fun z => absurd z (by decide), by decide, by decide⟩
    rw [if_neg c1] at h ⊢
    by_cases c2 : (45 : Int32) = x
    · subst c2; exact ⟨fun z => absurd z (by decide), fun _ => .inr rfl, fun z => absurd z (by decide), by decide, by decide⟩
    rw [if_neg c2] at h
    exact absurd (by decide) h
  · have e : amO (opA 2) x = if (42 : Int32) = x then 0 else if (47 : Int32) = x then 1 else -1 := rfl
    rw [e] at h ⊢
    by_cases c1 : (42 : Int32) = x
    · subst c1; exact ⟨fun z => absurd z (by decide), fun z => absurd z (by decide), fun _ => .inl rfl, by decide, by decide⟩
    rw [if_neg c1] at h ⊢
    by_cases c2 : (47 : Int32) = x
    · subst c2; exact ⟨fun z => absurd z (by decide), fun z => absurd z (by decide), fun _ => .inr rfl, by decide, by decide⟩
    rw [if_neg c2] at h
    exact absurd (by decide) h

