-- ===== a rule's text: both readers =====
theorem sm_all {F : Nat} (hF : 100 ≤ F) {a : Nat} (ha : a = 12 ∨ a = 18) {t : Nat → Int32} {n e : Nat} (he : e ≤ n) (he4 : e ≤ 40) (K : Wd → Option (Int32 × Wd)) (hK : ∀ w C W d m g hb, TxC w t n → LsC w a C W d m g hb → d < 100 → (hb = false ∨ 0 < d) → K w = some (nI e, w)) (hsg : ∀ q, q < e → ∃ c : Nat, c < 256 ∧ atP t e q = nI c) : ∀ D k d p W s w C g M, k ≤ 4 → d ≤ 4 → p ≤ e → s < 32 → TxC w t n → LsC w a C W d (nI s) g false → C.map trc = M → C.length + W.length ≤ p → (k < 3 → ∀ x W', W = x :: W' → rkN x < k + 1) → (k = 0 → bt (nI s) d = 0) → (∀ j, d < j → j < 8 → bt (nI s) j = 0) → 5 * (4 - d) + (e - p) + 1 + (4 - k) ≤ D → SmB F a t e K k d p W s w (rD t e D k p d M) := by
  intro D
  induction D with
  | zero => intro k d p W s w C g M h1 h2 h3 h4 h5 h6 h7 h8 h9 h10 h11 h12; omega
  | succ D ih =>
    intro k d p W s w C g M h1 h2 h3 h4 hx h6 h7 h8 h9 h10 h11 h12
    rw [rD]
    by_cases k4 : k = 4
    · subst k4
      rw [if_pos rfl]
      have none : atP t e p ≠ 45 → ¬ dgP t e p → amS 0 (atP t e p) < 0 → (d = 4 ∨ ¬ atP t e p = 40) → SmB F a t e K 4 d p W s w (false, p, M) := fun c0 c1 c2 c3 => by
        refine ⟨fun z => absurd (show false = true from z) (by decide), fun _ f hf => ?_⟩
        obtain ⟨f, rfl⟩ : ∃ z, f = z + 1 := ⟨f - 1, by omega⟩
        show ∃ w2, L_X2_read_42 F a (nI e) K (f + 1) w (nI p) = some (nI p, w2)
        by_cases hp : p < e
        · rw [rd_b hx he h6 K f p hp, if_neg (show ¬ (false = true) from by decide)]
          by_cases c4 : atP t e p = 40
          · have d4 : d = 4 := c3.elim (fun z => z) (fun z => absurd c4 z)
            rw [c4, bnd_r (bg_openN h6 (by omega) (by omega)), if_pos rfl]; exact ⟨w, rfl⟩
          · obtain ⟨c, e1, e2⟩ := hsg p hp
            obtain ⟨w2, a1, -, -, -⟩ := bg_thing (F := F) hF h6 (by omega) e1 (fun z => c0 (by rw [e2, z]; rfl)) (fun z => c4 (by rw [e2, z]; rfl))
            have nz : ¬ ((48 ≤ c ∧ c ≤ 57) ∨ ¬ amS 0 (nI c) < 0) := fun z => by
              rcases z with z | z
              · refine c1 ?_
                unfold dgP; rw [e2]
                exact ⟨nI_nlt (a := c) (b := 48) z.1 (by omega), nI_nlt (a := 57) (b := c) z.2 (by omega)⟩
              · exact z (by rw [← e2]; exact c2)
            rw [if_neg nz] at a1
            rw [e2, bnd_r a1, if_pos rfl]; exact ⟨w2, rfl⟩
        · rw [show p = e from by omega, rd_end]
          exact ⟨w, hK w _ _ _ _ _ _ hx h6 (by omega) (.inl rfl)⟩
      by_cases c0 : atP t e p = 45
      · rw [if_pos c0]
        have hp : p < e := by
          by_cases z : p < e
          · exact z
          · rw [show atP t e p = -1 from if_neg z] at c0; exact absurd c0 (by decide)
        obtain ⟨w1, q1, q2, q3⟩ := sm_minus (F := F) he K h6 hx h8 he4 c0 hp
        exact q3 _ (ih 4 d (p + 1) (126 :: W) s w1 C g M (by omega) h2 hp h4 (LawF_x hx ha q1) q2 h7 (by show C.length + (W.length + 1) ≤ p + 1; omega) (fun z => absurd z (by omega)) (fun z => absurd z (by omega)) h11 (by omega))
      rw [if_neg c0]
      by_cases c1 : dgP t e p
      · rw [if_pos c1, ← h7]
        refine ⟨fun _ => sm_number hF ha he K h6 h4 hx h8 he4 (fun q => ?_) c1, fun z => absurd rfl z⟩
        obtain ⟨y, y1, y2⟩ := val_nn (t := t) (e := e) (p := q) (show 3 ≤ 3 by decide)
        rw [y1]; exact trc_num (nI_lt (a := y) (b := 1010) (by omega) (by decide))
      rw [if_neg c1]
      by_cases c2 : amS 0 (atP t e p) < 0
      · rw [if_neg (fun z => z c2)]
        by_cases c3 : d = 4 ∨ ¬ atP t e p = 40
        · rw [if_pos c3]; exact none c0 c1 c2 c3
        · rw [if_neg c3]
          have c4 : atP t e p = 40 := by
            by_cases z : atP t e p = 40
            · exact z
            · exact absurd (.inr z) c3
          have d4 : ¬ d = 4 := fun z => c3 (.inl z)
          have hp : p < e := by
            by_cases z : p < e
            · exact z
            · rw [show atP t e p = -1 from if_neg z] at c4; exact absurd c4 (by decide)
          obtain ⟨w1, q1, q2, q3⟩ := sm_open hF ha he K hK hsg h6 h4 (h11 (d + 1) (by omega) (by omega)) hx h8 he4 c4 hp (by omega)
          exact q3 _ (ih 0 (d + 1) (p + 1) (40 :: W) s w1 C g M (by omega) (by omega) hp h4 (LawF_x hx ha q1) q2 h7 (by show C.length + (W.length + 1) ≤ p + 1; omega) (fun _ x W' z => by rw [← (List.cons.inj z).1]; decide) (fun _ => h11 (d + 1) (by omega) (by omega)) (fun j z1 z2 => h11 j (by omega) z2) (by omega))
      · rw [if_pos c2, ← h7]
        have hp := am_lt (show 0 < 6 by decide) c2
        obtain ⟨c, e1, e2⟩ := hsg p hp
        exact ⟨fun _ => sm_letter hF ha he K h6 h4 hx h8 he4 e1 e2 c0 c1 c2 (fun z => by rw [z] at c2; exact absurd (by decide) c2), fun z => absurd rfl z⟩
    · rw [if_neg k4]
      by_cases k3 : k = 3
      · subst k3
        rw [if_pos rfl]
        exact sm_3 (ih 4 d p W s w C g M (by omega) h2 h3 h4 hx h6 h7 h8 (fun z => absurd z (by omega)) (fun z => absurd z (by omega)) h11 (by omega))
      · rw [if_neg k3]
        have hr := ih (k + 1) d p W s w C g M (by omega) h2 h3 h4 hx h6 h7 h8 (fun z x W' y => by have := h9 (by omega) x W' y; omega) (fun z => absurd z (by omega)) h11 (by omega)
        by_cases c : (rD t e D (k + 1) p d M).1 = true
        · rw [if_pos c]
          obtain ⟨w2, C2, P, s2, g2, b1, b2, b3, b4, b5, b6, b7, b8, b9, b10, b11, b12, b13, b14, b15, b16⟩ := hr.1 c
          have es : s2 = s := b12 (by omega)
          subst es
          exact sm_loop hF ha he K hx h4 (by omega) (by omega) he4 (h9 (by omega)) h10 (fun p M => rD t e D (k + 1) p d M) (fun q' s' x w' C' M' z1 z2 z3 z4 z5 z6 z7 z8 z9 => ih (k + 1) d q' (x :: W) s' w' C' 0 M' (by omega) h2 z2 z3 z6 z7 z8 z9 (fun _ y W' z => by rw [← (List.cons.inj z).1]; omega) (fun z => absurd z (by omega)) (fun j y1 y2 => by rw [z4 j y2 (by omega)]; exact h11 j y1 y2) (by omega)) 41 _ _ (by omega) ⟨w2, C2, P, g2, b1, b2, b3, b4, b5, fun x hx => by have := b6 x hx; omega, b7, b8, b9, b10, fun z => b14 (by omega), fun z => b15 (by omega)⟩
        · rw [if_neg c]
          exact ⟨fun z => absurd (show false = true from z) (by decide), fun _ => hr.2 c⟩

