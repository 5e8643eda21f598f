-- ===== a rule's text: the bits of its depths =====
theorem mb_or : ∀ s : Nat, s < 32 → ∀ d : Nat, d < 5 → s ||| 2 ^ d < 32 ∧ nI s ||| bit1 d = nI (s ||| 2 ^ d) ∧ ¬ bt (nI (s ||| 2 ^ d)) d = 0 ∧ ∀ j : Nat, j < 8 → ¬ j = d → bt (nI (s ||| 2 ^ d)) j = bt (nI s) j := by decide +kernel
theorem mb_and : ∀ s : Nat, s < 32 → ∀ d : Nat, d < 5 → ∃ u : Nat, u < 32 ∧ nI s &&& (bit1 d ^^^ (-1)) = nI u ∧ bt (nI u) d = 0 ∧ ∀ j : Nat, j < 8 → ¬ j = d → bt (nI u) j = bt (nI s) j := by
  have h : ∀ s : Nat, s < 32 → ∀ d : Nat, d < 5 → (if s.testBit d then s - 2 ^ d else s) < 32 ∧ nI s &&& (bit1 d ^^^ (-1)) = nI (if s.testBit d then s - 2 ^ d else s) ∧ bt (nI (if s.testBit d then s - 2 ^ d else s)) d = 0 ∧ ∀ j : Nat, j < 8 → ¬ j = d → bt (nI (if s.testBit d then s - 2 ^ d else s)) j = bt (nI s) j := by decide +kernel
  exact fun s hs d hd => ⟨_, h s hs d hd⟩
/-- what one reading of the class does, beside one of the model's -/
def SmO (F a : Nat) (t : Nat → Int32) (e : Nat) (K : Wd → Option (Int32 × Wd)) (k d p : Nat) (W : List Int32) (s : Nat) (w : Wd) (r : Rs) : Prop := ∃ (w2 : Wd) (C P : List Int32) (s2 g : Nat), p + 1 ≤ r.2.1 ∧ r.2.1 ≤ e ∧ (∀ f, L_X2_read_42 F a (nI e) K (f + (r.2.1 - p)) w (nI p) = L_X2_read_42 F a (nI e) K f w2 (nI r.2.1)) ∧ Fr (LawF a) w w2 ∧ LsC w2 a C (P ++ W) d (nI s2) g true ∧ (∀ x, x ∈ P → min (k + 1) 4 ≤ rkN x) ∧ (flC P C).map trc = r.2.2 ∧ C.length + (P ++ W).length ≤ r.2.1 ∧ (dgP t e r.2.1 → ¬ (1 ≤ g ∧ g ≤ 2)) ∧ g < 100 ∧ s2 < 32 ∧ (0 < k → s2 = s) ∧ (∀ j, j < 8 → ¬ j = d → bt (nI s2) j = bt (nI s) j) ∧ (k ≤ 2 → amO 4 (atP t e r.2.1) < 0) ∧ (k ≤ 1 → amO 3 (atP t e r.2.1) < 0) ∧ (k = 0 → ¬ amO 2 (atP t e r.2.1) < 0 → ¬ bt (nI s2) d = 0)
def SmN (F a e : Nat) (K : Wd → Option (Int32 × Wd)) (p : Nat) (w : Wd) (r : Rs) : Prop := ∀ f, e < p + f → ∃ w2, L_X2_read_42 F a (nI e) K f w (nI p) = some (nI r.2.1, w2)
def SmB (F a : Nat) (t : Nat → Int32) (e : Nat) (K : Wd → Option (Int32 × Wd)) (k d p : Nat) (W : List Int32) (s : Nat) (w : Wd) (r : Rs) : Prop := (r.1 = true → SmO F a t e K k d p W s w r) ∧ (¬ r.1 = true → SmN F a e K p w r)
theorem rd_digits2 {F a : Nat} {t : Nat → Int32} {n e : Nat} {W : List Int32} {d : Nat} {mm : Int32} (ha : a = 12 ∨ a = 18) (he : e ≤ n) (K : Wd → Option (Int32 × Wd)) : ∀ m p g y C w, LsC w a (y :: C) W d mm g true → TxC w t n → g + m = 3 → 1 ≤ g → C.length < 40 → ∃ w2, (∀ f, L_X2_read_42 F a (nI e) K (f + cntP t e m p) w (nI p) = L_X2_read_42 F a (nI e) K f w2 (nI (p + cntP t e m p))) ∧ Fr (LawF a) w w2 ∧ LsC w2 a (valP t e m p y :: C) W d mm (g + cntP t e m p) true := by
  intro m
  induction m with
  | zero => intro p g y C w h hx _ _ _; exact ⟨w, fun f => rfl, Fr.rfl', h⟩
  | succ m ih =>
    intro p g y C w h hx hg h1 hl
    rw [cntP, valP]
    by_cases c : dgP t e p
    · obtain ⟨c0, d1, d2, d3⟩ := dg_n c
      rw [if_pos c, if_pos c]
      obtain ⟨w1, a1, a2, a3⟩ := (go_digit (F := F) h d1 d2 hl (by omega)).1 ⟨h1, by omega⟩ y C rfl
      rw [add_dig y d1, ← d3] at a3
      obtain ⟨w2, b1, b2, b3⟩ := ih (p + 1) (g + 1) _ C w1 a3 (LawF_x hx ha a2) (by omega) (by omega) hl
      rw [show p + (cntP t e m (p + 1) + 1) = p + 1 + cntP t e m (p + 1) from by omega, show g + (cntP t e m (p + 1) + 1) = g + 1 + cntP t e m (p + 1) from by omega]
      refine ⟨w2, fun f => ?_, a2.tr b2 (fun _ h => h) (fun _ h => h), b3⟩
      rw [show f + (cntP t e m (p + 1) + 1) = f + cntP t e m (p + 1) + 1 from by omega, rd_b hx he h K _ p (dgP_lt c), if_pos rfl, d3, bnd_r a1, if_neg (show ¬ (1 : Int32) = 0 from by decide)]
      exact b1 f
    · rw [if_neg c, if_neg c]; exact ⟨w, fun f => rfl, Fr.rfl', h⟩
theorem rd_number2 {F a : Nat} {t : Nat → Int32} {n e : Nat} {W : List Int32} {d : Nat} {mm : Int32} (hF : 100 ≤ F) (ha : a = 12 ∨ a = 18) (he : e ≤ n) (K : Wd → Option (Int32 × Wd)) {C : List Int32} {g p : Nat} {w : Wd} (h : LsC w a C W d mm g false) (hx : TxC w t n) (hl : C.length < 40) (c : dgP t e p) : ∃ w2, (∀ f, L_X2_read_42 F a (nI e) K (f + cntP t e 3 p) w (nI p) = L_X2_read_42 F a (nI e) K f w2 (nI (p + cntP t e 3 p))) ∧ Fr (LawF a) w w2 ∧ LsC w2 a (valP t e 3 p 0 :: C) W d mm (cntP t e 3 p) true ∧ ¬ (dgP t e (p + cntP t e 3 p) ∧ 1 ≤ cntP t e 3 p ∧ cntP t e 3 p ≤ 2) := by
  obtain ⟨c0, d1, d2, d3⟩ := dg_n c
  obtain ⟨w1, a1, a2, a3, -⟩ := bg_thing hF h hl (c := c0) (by omega) (by omega) (by omega)
  have a3 := a3 ⟨d1, d2⟩
  have e3 : cntP t e 3 p = cntP t e 2 (p + 1) + 1 := by rw [cntP, if_pos c]
  have ev : valP t e 3 p 0 = valP t e 2 (p + 1) (nI (c0 - 48)) := by
    rw [valP, if_pos c, d3, ← add_dig 0 d1, Int32.zero_mul, zadd]
  have hend := cnt_end t e 3 p
  obtain ⟨w2, b1, b2, b3⟩ := rd_digits2 (F := F) ha he K 2 (p + 1) 1 _ C w1 a3 (LawF_x hx ha a2) rfl (Nat.le_refl _) hl
  refine ⟨w2, fun f => ?_, a2.tr b2 (fun _ h => h) (fun _ h => h), by rw [ev, e3, Nat.add_comm (cntP t e 2 (p + 1)) 1]; exact b3, fun q => ?_⟩
  · rw [e3, show f + (cntP t e 2 (p + 1) + 1) = f + cntP t e 2 (p + 1) + 1 from by omega, rd_b hx he h K _ p (dgP_lt c), if_neg (show ¬ (false = true) from by decide), d3, bnd_r a1, if_pos (show (48 ≤ c0 ∧ c0 ≤ 57) ∨ ¬ amS 0 (nI c0) < 0 from .inl ⟨d1, d2⟩), if_neg (show ¬ (1 : Int32) = 0 from by decide), b1, show p + (cntP t e 2 (p + 1) + 1) = p + 1 + cntP t e 2 (p + 1) from by omega]
  · rcases hend with z | z
    · omega
    · exact z q.1
section TH
variable {F : Nat} {a : Nat} {t : Nat → Int32} {n : Nat} {C W : List Int32} {d s g p : Nat} {w : Wd}
/-- a number is a thing -/
theorem sm_number (hF : 100 ≤ F) (ha : a = 12 ∨ a = 18) {e : Nat} (he : e ≤ n) (K : Wd → Option (Int32 × Wd)) (h : LsC w a C W d (nI s) g false) (hs : s < 32) (hx : TxC w t n) (hl : C.length + W.length ≤ p) (he4 : e ≤ 40) (hv : ∀ q, trc (valP t e 3 q 0) = valP t e 3 q 0) (c : dgP t e p) : SmO F a t e K 4 d p W s w (true, p + cntP t e 3 p, valP t e 3 p 0 :: C.map trc) := by
  have hp := dgP_lt c
  have hcl := cntP_le t e 3 p (by omega)
  have e3 : cntP t e 3 p = cntP t e 2 (p + 1) + 1 := by rw [cntP, if_pos c]
  obtain ⟨w2, b1, b2, b3, b4⟩ : ∃ w2, (∀ f, L_X2_read_42 F a (nI e) K (f + cntP t e 3 p) w (nI p) = L_X2_read_42 F a (nI e) K f w2 (nI (p + cntP t e 3 p))) ∧ Fr (LawF a) w w2 ∧ LsC w2 a (valP t e 3 p 0 :: C) W d (nI s) (cntP t e 3 p) true ∧ ¬ (dgP t e (p + cntP t e 3 p) ∧ 1 ≤ cntP t e 3 p ∧ cntP t e 3 p ≤ 2) := rd_number2 hF ha he K h hx (by omega) c
  exact ⟨w2, valP t e 3 p 0 :: C, [], s, cntP t e 3 p, by show p + 1 ≤ p + cntP t e 3 p; omega, hcl.1, fun f => by
    rw [show (true, p + cntP t e 3 p, valP t e 3 p 0 :: C.map trc).2.1 - p = cntP t e 3 p from by show p + cntP t e 3 p - p = _; omega]; exact b1 f, b2, b3, fun x hx => absurd hx (by simp), by show trc (valP t e 3 p 0) :: C.map trc = _; rw [hv], by show C.length + 1 + W.length ≤ p + cntP t e 3 p; omega, fun q1 q2 => b4 ⟨q1, q2⟩, by omega, hs, fun z => rfl, fun j _ _ => rfl, fun z => absurd z (by decide), fun z => absurd z (by decide), fun z => absurd z (by decide)⟩
end TH
