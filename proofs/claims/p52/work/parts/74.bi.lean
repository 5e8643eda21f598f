/-- one for another -/
def rvP (r : Nat) (b : Bl) (x y : Int32) : Int32 × Bl := if (lvP r b x).1 < 0 then lvP r b x else if (tkP r (lvP r b x).2 y).1 < 0 then ((tkP r (lvP r b x).2 y).1, b) else tkP r (lvP r b x).2 y
theorem setR_setR (b : Bl) (s t : Int32) : setR (setR b s) t = setR b t := by
  funext k; unfold setR; split <;> rfl
theorem setR_self (b : Bl) : setR b (b 8) = b := by
  funext k; unfold setR; split
  · rename_i h; rw [h]
  · rfl
theorem lv_back {r : Nat} (hr : r ≤ 8) {b : Bl} (h : okRq b r) (x : Int32) : setR (lvP r b x).2 (b 8) = b := by
  obtain ⟨-, s, -, q⟩ := lvP_ok hr h x
  rw [q, setR_setR, setR_self]
theorem bc_set {b : Bl} {r : Nat} (hr : r ≤ 8) {X : Int32} (h : okRq (setR b X) r) : ¬ bc X < 0 := by
  obtain ⟨s, h1, -, h3⟩ := h
  have h3 : X = nI s := h3
  have := pow8 hr
  obtain ⟨c, c1, c2⟩ := (bc_all s (by omega)).1
  rw [h3, c2]; exact nI_pos (by omega)
theorem tk_bad {r : Nat} (hr : r ≤ 8) {b : Bl} (h : okRq b r) (x : Int32) : (tkP r b x).1 < 0 → (tkP r b x).2 = b := by
  have q := (tkP_ok hr h x).1
  unfold tkP at q ⊢
  by_cases c1 : x < 0
  · rw [if_pos c1]; intro _; rfl
  rw [if_neg c1] at q ⊢
  by_cases c2 : nI r ≤ x
  · rw [if_pos c2]; intro _; rfl
  rw [if_neg c2] at q ⊢
  by_cases c3 : bt (b 8) x.toNatClampNeg = 0
  · rw [if_pos c3] at q ⊢
    by_cases c4 : bc (b 8) < 3
    · rw [if_pos c4] at q ⊢
      intro hl; exact absurd hl (bc_set hr q)
    · rw [if_neg c4]; intro _; rfl
  · rw [if_neg c3]; intro _; rfl
