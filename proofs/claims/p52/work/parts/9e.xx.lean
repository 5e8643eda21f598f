section LO
variable {F : Nat} {a : Nat} {t : Nat → Int32} {n : Nat} {W : List Int32} {d s p k : Nat} {w : Wd}
/-- in the midst of rank k: like SmO, but what waits binds k + 1 or more, and operations of rank k may follow -/
def SmL (F a : Nat) (t : Nat → Int32) (e : Nat) (K : Wd → Option (Int32 × Wd)) (k d p : Nat) (W : List Int32) (s : Nat) (w : Wd) (q : Nat) (M : List Int32) : Prop := ∃ (w2 : Wd) (C P : List Int32) (g : Nat), p + 1 ≤ q ∧ q ≤ e ∧ (∀ f, L_X2_read_42 F a (nI e) K (f + (q - p)) w (nI p) = L_X2_read_42 F a (nI e) K f w2 (nI q)) ∧ Fr (LawF a) w w2 ∧ LsC w2 a C (P ++ W) d (nI s) g true ∧ (∀ x, x ∈ P → k + 1 ≤ rkN x) ∧ (flC P C).map trc = M ∧ C.length + (P ++ W).length ≤ q ∧ (dgP t e q → ¬ (1 ≤ g ∧ g ≤ 2)) ∧ g < 100 ∧ (k ≤ 1 → amO 4 (atP t e q) < 0) ∧ (k = 0 → amO 3 (atP t e q) < 0)
theorem sm_loop (hF : 100 ≤ F) (ha : a = 12 ∨ a = 18) {e : Nat} (he : e ≤ n) (K : Wd → Option (Int32 × Wd)) (hx : TxC w t n) (hs : s < 32) (hd : d < 5) (hk : k < 3) (he4 : e ≤ 40) (hW : ∀ x W', W = x :: W' → rkN x < k + 1) (hb : k = 0 → bt (nI s) d = 0) (f : Nat → List Int32 → Rs) (hf : ∀ q' s' x w' C' M', p < q' → q' ≤ e → s' < 32 → (∀ j, j < 8 → ¬ j = d → bt (nI s') j = bt (nI s) j) → rkN x = k + 1 → TxC w' t n → LsC w' a C' (x :: W) d (nI s') 0 false → C'.map trc = M' → C'.length + (x :: W).length ≤ q' → SmB F a t e K (k + 1) d q' (x :: W) s' w' (f q' M')) : ∀ m q M, e < q + m → SmL F a t e K k d p W s w q M → SmB F a t e K k d p W s w (lpR f t e k m q M) := by
  intro m
  induction m with
  | zero => intro q M h1 h2; obtain ⟨w2, C, P, g, b1, b2, -⟩ := h2; omega
  | succ m ih =>
    intro q M h1 h2
    obtain ⟨w2, C, P, g, b1, b2, b3, b4, b5, b6, b7, b8, b9, b10, b11, b12⟩ := h2
    rw [lpR]
    by_cases c : amO (opA k) (atP t e q) < 0
    · rw [if_pos c]
      refine ⟨fun _ => ⟨w2, C, P, s, g, b1, b2, b3, b4, b5, fun x hx => by have := b6 x hx; omega, b7, b8, b9, b10, hs, fun _ => rfl, fun j _ _ => rfl, fun z => ?_, fun z => ?_, fun z y => ?_⟩, fun z => absurd rfl z⟩
      · rcases (show k = 0 ∨ k = 1 ∨ k = 2 by omega) with y | y | y
        · exact b11 (by omega)
        · exact b11 (by omega)
        · rw [y] at c; exact c
      · rcases (show k = 0 ∨ k = 1 by omega) with y | y
        · exact b12 y
        · rw [y] at c; exact c
      · rw [z] at c; exact absurd c y
    · rw [if_neg c]
      have hq := am_ltO c
      have hx2 : TxC w2 t n := LawF_x hx ha b4
      obtain ⟨-, -, -, o3, o4⟩ := op_sg k hk (atP t e q) c
      obtain ⟨w3, s3, q1, q2, q3, q4, q5, q6, q7⟩ := sm_op hF he K hx2 b5 hs hd hk hq he4 b8 b6 hW c hb
      have hx3 : TxC w3 t n := LawF_x hx2 ha q2
      have hl3 : (flC P C).length + (atP t e q :: W).length ≤ q + 1 := by
        rw [fl_len]
        have := b8
        rw [List.length_append] at this
        show P.length + C.length + (W.length + 1) ≤ q + 1
        omega
      have hr := hf (q + 1) s3 (atP t e q) w3 (flC P C) M (by omega) hq q4 q6 o3 hx3 q3 b7 hl3
      have st : ∀ f, L_X2_read_42 F a (nI e) K (f + 1 + (q - p)) w (nI p) = L_X2_read_42 F a (nI e) K f w3 (nI (q + 1)) := fun f => by rw [b3, q1]
      by_cases c2 : (f (q + 1) M).1 = true
      · rw [if_pos c2]
        obtain ⟨w4, C4, P4, s4, g4, r1, r2, r3, r4, r5, r6, r7, r8, r9, r10, r11, r12, r13, r14, r15, r16⟩ := hr.1 c2
        have es : s4 = s3 := r12 (by omega)
        subst es
        have stp : ∀ g, L_X2_read_42 F a (nI e) K (g + ((f (q + 1) M).2.1 - p)) w (nI p) = L_X2_read_42 F a (nI e) K g w4 (nI (f (q + 1) M).2.1) := fun g => by
          rw [show g + ((f (q + 1) M).2.1 - p) = (g + ((f (q + 1) M).2.1 - (q + 1))) + 1 + (q - p) from by omega, st]; exact r3 g
        have frs := (b4.tr q2 (fun _ h => h) (fun _ h => h)).tr r4 (fun _ h => h) (fun _ h => h)
        have hP4 : ∀ x, x ∈ P4 ++ [atP t e q] → k + 1 ≤ rkN x := fun x hx => by
          rcases List.mem_append.mp hx with z | z
          · have := r6 x z; omega
          · rw [List.mem_singleton.mp z]; omega
        have hM4 : (flC (P4 ++ [atP t e q]) C4).map trc = (2000 + amO (opA k) (atP t e q) + opC k) :: (f (q + 1) M).2.2 := by
          rw [fl_app]
          show trc (1010 + atP t e q) :: (flC P4 C4).map trc = _
          rw [o4, r7]
        have r5' : LsC w4 a C4 ((P4 ++ [atP t e q]) ++ W) d (nI s4) g4 true := by rw [List.append_assoc]; exact r5
        have r8' : C4.length + ((P4 ++ [atP t e q]) ++ W).length ≤ (f (q + 1) M).2.1 := by rw [List.append_assoc]; exact r8
        by_cases k0 : k = 0
        · rw [if_pos k0]
          exact ⟨fun _ => ⟨w4, C4, P4 ++ [atP t e q], s4, g4, by show p + 1 ≤ (f (q + 1) M).2.1; omega, r2, stp, frs, r5', fun x hx => by have := hP4 x hx; omega, hM4, r8', r9, r10, r11, fun z => absurd z (by omega), q6, fun _ => r14 (by omega), fun _ => r15 (by omega), fun _ _ => q7 k0⟩, fun z => absurd rfl z⟩
        · rw [if_neg k0]
          have es2 : s4 = s := q5 (by omega)
          subst es2
          exact ih _ _ (by omega) ⟨w4, C4, P4 ++ [atP t e q], g4, by omega, r2, stp, frs, r5', hP4, hM4, r8', r9, r10, fun z => r14 (by omega), fun z => absurd z k0⟩
      · rw [if_neg c2]
        refine ⟨fun z => absurd (show false = true from z) (by decide), fun _ g hg => ?_⟩
        obtain ⟨g, rfl⟩ : ∃ z, g = z + 1 + (q - p) := ⟨g - 1 - (q - p), by omega⟩
        obtain ⟨w4, r1⟩ := hr.2 c2 g (by omega)
        exact ⟨w4, by rw [st]; exact r1⟩
end LO
