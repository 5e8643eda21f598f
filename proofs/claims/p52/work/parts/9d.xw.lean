section OS
variable {F : Nat} {a : Nat} {t : Nat → Int32} {n : Nat} {C P W : List Int32} {d s g q k : Nat} {w : Wd}
theorem sm_3 {e : Nat} {K : Wd → Option (Int32 × Wd)} {p : Nat} {r : Rs} (h : SmB F a t e K 4 d p W s w r) : SmB F a t e K 3 d p W s w r := by
  refine ⟨fun hok => ?_, h.2⟩
  obtain ⟨w2, C2, P, s2, g2, b1, b2, b3, b4, b5, b6, b7, b8, b9, b10, b11, b12, b13, b14, b15, b16⟩ := h.1 hok
  exact ⟨w2, C2, P, s2, g2, b1, b2, b3, b4, b5, fun x hx => by have := b6 x hx; omega, b7, b8, b9, b10, b11, fun _ => b12 (by omega), b13, fun z => absurd z (by decide), fun z => absurd z (by decide), fun z => absurd z (by decide)⟩
/-- an operation of rank k behind a thing -/
theorem sm_op (hF : 100 ≤ F) {e : Nat} (he : e ≤ n) (K : Wd → Option (Int32 × Wd)) (hx : TxC w t n) (h : LsC w a C (P ++ W) d (nI s) g true) (hs : s < 32) (hd : d < 5) (hk : k < 3) (hq : q < e) (he4 : e ≤ 40) (hl : C.length + (P ++ W).length ≤ q) (hP : ∀ x, x ∈ P → k + 1 ≤ rkN x) (hW : ∀ x W', W = x :: W' → rkN x < k + 1) (hop : ¬ amO (opA k) (atP t e q) < 0) (hb : k = 0 → bt (nI s) d = 0) : ∃ w2 s2, (∀ f, L_X2_read_42 F a (nI e) K (f + 1) w (nI q) = L_X2_read_42 F a (nI e) K f w2 (nI (q + 1))) ∧ Fr (LawF a) w w2 ∧ LsC w2 a (flC P C) (atP t e q :: W) d (nI s2) 0 false ∧ s2 < 32 ∧ (0 < k → s2 = s) ∧ (∀ j, j < 8 → ¬ j = d → bt (nI s2) j = bt (nI s) j) ∧ (k = 0 → ¬ bt (nI s2) d = 0) := by
  obtain ⟨o0, o1, o2, o3, -⟩ := op_sg k hk (atP t e q) hop
  have hrel := rel_fl (k + 1) P W C hP
  have hstop := rel_stop (k + 1) W (flC P C) hW
  have go : ∀ w2, P_X2_goOn F w a (atP t e q) = some (1, w2) → ∀ f, L_X2_read_42 F a (nI e) K (f + 1) w (nI q) = L_X2_read_42 F a (nI e) K f w2 (nI (q + 1)) := fun w2 h2 f => by
    rw [rd_b hx he h K f q hq, if_pos rfl, bnd_r h2, if_neg (show ¬ (1 : Int32) = 0 from by decide)]
  by_cases k0 : k = 0
  · obtain ⟨m1, m2, m3, m4⟩ := mb_or s hs d hd
    obtain ⟨w2, a1, a2, a3⟩ := (go_cmp hF h (by omega) (atP t e q) (by rcases o0 k0 with z | z | z; exact .inl z; exact .inr (.inr z); exact .inr (.inl z))).1 (hb k0)
    rw [k0] at hrel hstop
    rw [hrel.1, hrel.2, hstop.1, hstop.2, m2] at a3
    exact ⟨w2, s ||| 2 ^ d, go w2 a1, a2, a3, m1, fun z => absurd k0 (by omega), m4, fun _ => m3⟩
  · obtain ⟨w2, a1, a2, a3⟩ := go_op hF h (by omega) (atP t e q) (by
      rcases (show k = 1 ∨ k = 2 by omega) with z | z
      · rcases o1 z with y | y
        · exact .inl y
        · exact .inr (.inl y)
      · rcases o2 z with y | y
        · exact .inr (.inr (.inl y))
        · exact .inr (.inr (.inr y)))
    rw [o3, hrel.1, hrel.2, hstop.1, hstop.2] at a3
    exact ⟨w2, s, go w2 a1, a2, a3, hs, fun _ => rfl, fun j _ _ => rfl, fun z => absurd z k0⟩
end OS
