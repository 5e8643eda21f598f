-- ===== a rule's text: what stands in ( ) =====
theorem bits_eq : ∀ u : Nat, u < 32 → ∀ s : Nat, s < 32 → (∀ j : Nat, j < 8 → bt (nI u) j = bt (nI s) j) → u = s := by decide +kernel
section OP
variable {F : Nat} {a : Nat} {t : Nat → Int32} {n : Nat} {C W : List Int32} {d s g p : Nat} {w : Wd}
theorem sm_open (hF : 100 ≤ F) (ha : a = 12 ∨ a = 18) {e : Nat} (he : e ≤ n) (K : Wd → Option (Int32 × Wd)) (hK : ∀ w C W d m g hb, TxC w t n → LsC w a C W d m g hb → d < 100 → (hb = false ∨ 0 < d) → K w = some (nI e, w)) (hsg : ∀ q, q < e → ∃ c : Nat, c < 256 ∧ atP t e q = nI c) (h : LsC w a C W d (nI s) g false) (hs : s < 32) (hb0 : bt (nI s) (d + 1) = 0) (hx : TxC w t n) (hl : C.length + W.length ≤ p) (he4 : e ≤ 40) (c0 : atP t e p = 40) (hp : p < e) (hd : d < 4) : ∃ w1, Fr (LawF a) w w1 ∧ LsC w1 a C (40 :: W) (d + 1) (nI s) g false ∧ ∀ r : Rs, SmB F a t e K 0 (d + 1) (p + 1) (40 :: W) s w1 r → SmB F a t e K 4 d p W s w (if r.1 = true then (if atP t e r.2.1 = 41 then (true, r.2.1 + 1, r.2.2) else (false, r.2.1, r.2.2)) else (false, r.2.1, r.2.2)) := by
  obtain ⟨w1, a1, a2, a3⟩ := bg_open (F := F) h (by omega) hd
  have step : ∀ f, L_X2_read_42 F a (nI e) K (f + 1) w (nI p) = L_X2_read_42 F a (nI e) K f w1 (nI (p + 1)) := fun f => by
    rw [rd_b hx he h K f p hp, if_neg (show ¬ (false = true) from by decide), c0, bnd_r a1, if_neg (show ¬ (1 : Int32) = 0 from by decide)]
  refine ⟨w1, a2, a3, fun r hr => ?_⟩
  by_cases hok : r.1 = true
  · rw [if_pos hok]
    obtain ⟨w2, C2, P, s2, g2, b1, b2, b3, b4, b5, b6, b7, b8, b9, b10, b11, b12, b13, b14, b15, b16⟩ := hr.1 hok
    have hx2 : TxC w2 t n := LawF_x (LawF_x hx ha a2) ha b4
    have st2 : ∀ f, L_X2_read_42 F a (nI e) K (f + (r.2.1 - p)) w (nI p) = L_X2_read_42 F a (nI e) K f w2 (nI r.2.1) := fun f => by
      rw [show f + (r.2.1 - p) = f + (r.2.1 - (p + 1)) + 1 from by omega, step]; exact b3 f
    have hlen : C2.length + (P.length + (W.length + 1)) ≤ r.2.1 := by
      have := b8
      rw [List.length_append] at this
      exact this
    by_cases c1 : atP t e r.2.1 = 41
    · rw [if_pos c1]
      have hq : r.2.1 < e := by
        by_cases z : r.2.1 < e
        · exact z
        · rw [show atP t e r.2.1 = -1 from if_neg z] at c1; exact absurd c1 (by decide)
      have hrel := rel_fl 1 P (40 :: W) C2 (fun x hx => by have := b6 x hx; omega)
      have hstop := rel_stop 1 (40 :: W) (flC P C2) (fun x W' e1 => by
        have : x = 40 := (List.cons.inj e1).1.symm
        rw [this]; decide)
      obtain ⟨u, u1, u2, u3, u4⟩ := mb_and s2 b11 (d + 1) (by omega)
      obtain ⟨w3, q1, q2, q3⟩ := go_close hF b5 (by rw [List.length_append]; show C2.length + (P.length + (W.length + 1)) ≤ 40; omega) (by omega) (by omega) (x := 40) (W2 := W) (by rw [hrel.1]; exact hstop.1)
      rw [hrel.2, hstop.2, u2, show d + 1 - 1 = d from by omega] at q3
      have eu : u = s := bits_eq u u1 s hs (fun j hj => by
        by_cases z : j = d + 1
        · rw [z, u3, hb0]
        · rw [u4 j hj z]; exact b13 j hj z)
      rw [eu] at q3
      refine ⟨fun _ => ⟨w3, flC P C2, [], s, 0, by show p + 1 ≤ r.2.1 + 1; omega, hq, fun f => ?_, (a2.tr b4 (fun _ h => h) (fun _ h => h)).tr q2 (fun _ h => h) (fun _ h => h), q3, fun x hx => absurd hx (by simp), b7, ?_, fun _ z => absurd z.1 (by decide), by omega, hs, fun _ => rfl, fun j _ _ => rfl, fun z => absurd z (by decide), fun z => absurd z (by decide), fun z => absurd z (by decide)⟩, fun z => absurd rfl z⟩
      · show L_X2_read_42 F a (nI e) K (f + (r.2.1 + 1 - p)) w (nI p) = L_X2_read_42 F a (nI e) K f w3 (nI (r.2.1 + 1))
        rw [show f + (r.2.1 + 1 - p) = f + 1 + (r.2.1 - p) from by omega, st2, rd_b hx2 he b5 K f r.2.1 hq, if_pos rfl, c1, bnd_r q1, if_neg (show ¬ (1 : Int32) = 0 from by decide)]
      · show (flC P C2).length + W.length ≤ r.2.1 + 1
        rw [fl_len]; omega
    · rw [if_neg c1]
      refine ⟨fun z => absurd (show false = true from z) (by decide), fun _ f hf => ?_⟩
      obtain ⟨f, rfl⟩ : ∃ q, f = q + 1 + (r.2.1 - p) := ⟨f - 1 - (r.2.1 - p), by omega⟩
      show ∃ w2, L_X2_read_42 F a (nI e) K (f + 1 + (r.2.1 - p)) w (nI p) = some (nI r.2.1, w2)
      rw [st2]
      by_cases hq : r.2.1 < e
      · exact rd_refuse (F := F) hx2 he hsg b5 (by omega) (by rw [List.length_append]; show C2.length + (P.length + (W.length + 1)) < 40; omega) hF b10 K f r.2.1 hq b9 (b15 (by decide)) (b14 (by decide)) (b16 rfl) (fun z => absurd z c1)
      · rw [show r.2.1 = e from by omega, rd_end]
        exact ⟨w2, hK w2 _ _ _ _ _ _ hx2 b5 (by omega) (.inr (by omega))⟩
  · rw [if_neg hok]
    refine ⟨fun z => absurd (show false = true from z) (by decide), fun _ f hf => ?_⟩
    obtain ⟨f, rfl⟩ : ∃ q, f = q + 1 := ⟨f - 1, by omega⟩
    obtain ⟨w2, b1⟩ := hr.2 hok f (by omega)
    exact ⟨w2, by rw [step]; exact b1⟩
end OP
