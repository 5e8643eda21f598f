section TI
variable {F : Nat} {a : Nat} {t : Nat → Int32} {n : Nat} {C W : List Int32} {d s g p : Nat} {w : Wd}
theorem am0_n {x : Int32} (h : ¬ amS 0 x < 0) : ∃ k : Nat, k < 7 ∧ amS 0 x = nI k := by
  rcases amP_sgn (chS 0) x 7 0 (by omega) with q | ⟨k, -, h2, -, h4⟩
  · have : amS 0 x = -1 := q
    rw [this] at h; exact absurd (by decide) h
  · exact ⟨k, by omega, h4⟩
theorem let_all : ∀ k, k < 7 → trc (1000 + nI k) = 1000 + nI k := by decide +kernel
/-- a letter is a thing -/
theorem sm_letter (hF : 100 ≤ F) (ha : a = 12 ∨ a = 18) {e : Nat} (he : e ≤ n) (K : Wd → Option (Int32 × Wd)) (h : LsC w a C W d (nI s) g false) (hs : s < 32) (hx : TxC w t n) (hl : C.length + W.length ≤ p) (he4 : e ≤ 40) {c : Nat} (hc : c < 256) (ec : atP t e p = nI c) (c0 : ¬ atP t e p = 45) (c1 : ¬ dgP t e p) (c2 : ¬ amS 0 (atP t e p) < 0) (c3 : ¬ atP t e p = 40) : SmO F a t e K 4 d p W s w (true, p + 1, (1000 + amS 0 (atP t e p)) :: C.map trc) := by
  have hp := am_lt (show 0 < 6 by decide) c2
  obtain ⟨k, k1, k2⟩ := am0_n c2
  have ndg : ¬ (48 ≤ c ∧ c ≤ 57) := fun z => c1 (by
    unfold dgP; rw [ec]
    exact ⟨nI_nlt (a := c) (b := 48) z.1 (by omega), nI_nlt (a := 57) (b := c) z.2 (by omega)⟩)
  obtain ⟨w2, a1, a2, -, a4⟩ := bg_thing hF h (by omega) hc (fun z => c0 (by rw [ec, z]; rfl)) (fun z => c3 (by rw [ec, z]; rfl))
  rw [← ec] at a1 a4
  have a4 := a4 ndg c2
  refine ⟨w2, (1000 + amS 0 (atP t e p)) :: C, [], s, 0, Nat.le_refl _, hp, fun f => ?_, a2, a4, fun x hx => absurd hx (by simp), ?_, by show C.length + 1 + W.length ≤ p + 1; omega, fun _ z => absurd z.1 (by decide), by omega, hs, fun _ => rfl, fun j _ _ => rfl, fun z => absurd z (by decide), fun z => absurd z (by decide), fun z => absurd z (by decide)⟩
  · show L_X2_read_42 F a (nI e) K (f + (p + 1 - p)) w (nI p) = L_X2_read_42 F a (nI e) K f w2 (nI (p + 1))
    rw [show f + (p + 1 - p) = f + 1 from by omega, rd_b hx he h K f p hp, if_neg (show ¬ (false = true) from by decide), bnd_r a1, if_pos (show (48 ≤ c ∧ c ≤ 57) ∨ ¬ amS 0 (atP t e p) < 0 from .inr c2), if_neg (show ¬ (1 : Int32) = 0 from by decide)]
  · show trc (1000 + amS 0 (atP t e p)) :: C.map trc = _
    rw [k2, let_all k k1]
/-- a thing behind a - is one -/
theorem sm_minus {e : Nat} (he : e ≤ n) (K : Wd → Option (Int32 × Wd)) (h : LsC w a C W d (nI s) g false) (hx : TxC w t n) (hl : C.length + W.length ≤ p) (he4 : e ≤ 40) (c0 : atP t e p = 45) (hp : p < e) : ∃ w1, Fr (LawF a) w w1 ∧ LsC w1 a C (126 :: W) d (nI s) g false ∧ ∀ r : Rs, SmB F a t e K 4 d (p + 1) (126 :: W) s w1 r → SmB F a t e K 4 d p W s w (r.1, r.2.1, 3000 :: r.2.2) := by
  obtain ⟨w1, a1, a2, a3⟩ := bg_minus (F := F) h (by omega)
  have step : ∀ f, L_X2_read_42 F a (nI e) K (f + 1) w (nI p) = L_X2_read_42 F a (nI e) K f w1 (nI (p + 1)) := fun f => by
    rw [rd_b hx he h K f p hp, if_neg (show ¬ (false = true) from by decide), c0, bnd_r a1, if_neg (show ¬ (1 : Int32) = 0 from by decide)]
  refine ⟨w1, a2, a3, fun r hr => ⟨fun hok => ?_, fun hno => ?_⟩⟩
  · obtain ⟨w2, C2, P, s2, g2, b1, b2, b3, b4, b5, b6, b7, b8, b9, b10, b11, b12, b13, b14, b15, b16⟩ := hr.1 hok
    refine ⟨w2, C2, P ++ [126], s2, g2, by show p + 1 ≤ r.2.1; omega, b2, fun f => ?_, a2.tr b4 (fun _ h => h) (fun _ h => h), by rw [List.append_assoc]; exact b5, fun x hx => ?_, ?_, ?_, b9, b10, b11, b12, b13, b14, b15, b16⟩
    · show L_X2_read_42 F a (nI e) K (f + (r.2.1 - p)) w (nI p) = L_X2_read_42 F a (nI e) K f w2 (nI r.2.1)
      rw [show f + (r.2.1 - p) = f + (r.2.1 - (p + 1)) + 1 from by omega, step]
      exact b3 f
    · rcases List.mem_append.mp hx with q | q
      · exact b6 x q
      · rw [List.mem_singleton.mp q]; decide
    · rw [fl_app]
      show trc (1010 + 126) :: (flC P C2).map trc = _
      rw [trc_neg, b7]
    · rw [List.append_assoc]; exact b8
  · intro f hf
    obtain ⟨f, rfl⟩ : ∃ q, f = q + 1 := ⟨f - 1, by omega⟩
    obtain ⟨w2, b1⟩ := hr.2 hno f (by omega)
    exact ⟨w2, by rw [step]; exact b1⟩
end TI
