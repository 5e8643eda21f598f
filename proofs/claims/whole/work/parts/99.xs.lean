-- ===== a rule's text: a number =====
section NU
variable {F : Nat} {a : Nat} {t : Nat → Int32} {n e : Nat} {W : List Int32} {d : Nat} {mm : Int32}
theorem add_dig (y : Int32) {c : Nat} (h : 48 ≤ c) : y * 10 + nI (c - 48) = y * 10 + nI c - 48 := by
  rw [← pk_sub h, Int32.sub_eq_add_neg, Int32.sub_eq_add_neg, Int32.add_assoc]; rfl
theorem LawF_x {w w2 : Wd} (hx : TxC w t n) (ha : a = 12 ∨ a = 18) (f : Fr (LawF a) w w2) : TxC w2 t n := TxC_fr hx f (by unfold LawF; omega) (by unfold LawF; omega)
theorem rd_digits (ha : a = 12 ∨ a = 18) (he : e ≤ n) (K : Wd → Option (Int32 × Wd)) : ∀ m p g y C w f, LsC w a (y :: C) W d mm g true → TxC w t n → g + m = 3 → 1 ≤ g → C.length < 40 → ∃ w2, L_X2_read_42 F a (nI e) K (f + cntP t e m p) w (nI p) = L_X2_read_42 F a (nI e) K f w2 (nI (p + cntP t e m p)) ∧ Fr (LawF a) w w2 ∧ LsC w2 a (valP t e m p y :: C) W d mm (g + cntP t e m p) true := by
  intro m
  induction m with
  | zero => intro p g y C w f h hx _ _ _; exact ⟨w, rfl, Fr.rfl', h⟩
  | succ m ih =>
    intro p g y C w f h hx hg h1 hl
    rw [cntP, valP]
    by_cases c : dgP t e p
    · obtain ⟨c0, d1, d2, d3⟩ := dg_n c
      rw [if_pos c, if_pos c]
      obtain ⟨w1, a1, a2, a3⟩ := (go_digit (F := F) h d1 d2 hl (by omega)).1 ⟨h1, by omega⟩ y C rfl
      rw [add_dig y d1, ← d3] at a3
      rw [show f + (cntP t e m (p + 1) + 1) = f + cntP t e m (p + 1) + 1 from by omega, rd_b hx he h K _ p (dgP_lt c), if_pos rfl, d3, bnd_r a1, if_neg (show ¬ (1 : Int32) = 0 from by decide), ← d3]
      obtain ⟨w2, b1, b2, b3⟩ := ih (p + 1) (g + 1) _ C w1 f a3 (LawF_x hx ha a2) (by omega) (by omega) hl
      rw [show p + (cntP t e m (p + 1) + 1) = p + 1 + cntP t e m (p + 1) from by omega, show g + (cntP t e m (p + 1) + 1) = g + 1 + cntP t e m (p + 1) from by omega]
      exact ⟨w2, b1, a2.tr b2 (fun _ h => h) (fun _ h => h), b3⟩
    · rw [if_neg c, if_neg c]; exact ⟨w, rfl, Fr.rfl', h⟩
theorem rd_number (hF : 100 ≤ F) (ha : a = 12 ∨ a = 18) (he : e ≤ n) (K : Wd → Option (Int32 × Wd)) {C : List Int32} {g p : Nat} {w : Wd} (h : LsC w a C W d mm g false) (hx : TxC w t n) (hl : C.length < 40) (c : dgP t e p) (f : Nat) : ∃ w2, L_X2_read_42 F a (nI e) K (f + cntP t e 3 p) w (nI p) = L_X2_read_42 F a (nI e) K f w2 (nI (p + cntP t e 3 p)) ∧ Fr (LawF a) w w2 ∧ LsC w2 a (valP t e 3 p 0 :: C) W d mm (cntP t e 3 p) true ∧ ¬ (dgP t e (p + cntP t e 3 p) ∧ 1 ≤ cntP t e 3 p ∧ cntP t e 3 p ≤ 2) := by
  obtain ⟨c0, d1, d2, d3⟩ := dg_n c
  obtain ⟨w1, a1, a2, a3, -⟩ := bg_thing hF h hl (c := c0) (by omega) (by omega) (by omega)
  have a3 := a3 ⟨d1, d2⟩
  have e3 : cntP t e 3 p = cntP t e 2 (p + 1) + 1 := by rw [cntP, if_pos c]
  have ev : valP t e 3 p 0 = valP t e 2 (p + 1) (nI (c0 - 48)) := by
    rw [valP, if_pos c, d3, ← add_dig 0 d1, Int32.zero_mul, zadd]
  have hend := cnt_end t e 3 p
  obtain ⟨w2, b1, b2, b3⟩ := rd_digits (F := F) ha he K 2 (p + 1) 1 _ C w1 f a3 (LawF_x hx ha a2) rfl (Nat.le_refl _) hl
  refine ⟨w2, ?_, a2.tr b2 (fun _ h => h) (fun _ h => h), by rw [ev, e3, Nat.add_comm (cntP t e 2 (p + 1)) 1]; exact b3, fun q => ?_⟩
  · rw [e3, show f + (cntP t e 2 (p + 1) + 1) = f + cntP t e 2 (p + 1) + 1 from by omega, rd_b hx he h K _ p (dgP_lt c), if_neg (show ¬ (false = true) from by decide), d3, bnd_r a1, if_pos (show (48 ≤ c0 ∧ c0 ≤ 57) ∨ ¬ amS 0 (nI c0) < 0 from .inl ⟨d1, d2⟩), if_neg (show ¬ (1 : Int32) = 0 from by decide), b1, show p + (cntP t e 2 (p + 1) + 1) = p + 1 + cntP t e 2 (p + 1) from by omega]
  · rcases hend with z | z
    · omega
    · exact z q.1
end NU
