-- ===== a rule's text: what the class's reading touches =====
def Gff (a : Nat) (w0 : Wd) (o : Option (Int32 × Wd)) : Prop := ∀ r, o = some r → Fr (LawF a) w0 r.2
def Gvv (a : Nat) (w0 : Wd) (o : Option Wd) : Prop := ∀ r, o = some r → Fr (LawF a) w0 r
section FA
variable {F a : Nat} {w0 w : Wd}
theorem Gf_s {v : Int32} (h : Fr (LawF a) w0 w) : Gff a w0 (some (v, w)) := fun r e => by rw [← Option.some.inj e]; exact h
theorem Gv_s (h : Fr (LawF a) w0 w) : Gvv a w0 (some w) := fun r e => by rw [← Option.some.inj e]; exact h
theorem Gf_i {c : Prop} [Decidable c] {x y : Option (Int32 × Wd)} (h1 : Gff a w0 x) (h2 : Gff a w0 y) : Gff a w0 (if c then x else y) := by
  by_cases h : c
  · rw [if_pos h]; exact h1
  · rw [if_neg h]; exact h2
theorem Gv_i {c : Prop} [Decidable c] {x y : Option Wd} (h1 : Gvv a w0 x) (h2 : Gvv a w0 y) : Gvv a w0 (if c then x else y) := by
  by_cases h : c
  · rw [if_pos h]; exact h1
  · rw [if_neg h]; exact h2
theorem Gf_g {c : Bool} {x : Option (Int32 × Wd)} (h : Gff a w0 x) : Gff a w0 (gd c x) := fun r e => h r (gd_e e).2
theorem Gv_g {c : Bool} {x : Option Wd} (h : Gvv a w0 x) : Gvv a w0 (gd c x) := fun r e => h r (gd_e e).2
theorem Gf_b {o : Option (Int32 × Wd)} {f : Int32 → Wd → Option (Int32 × Wd)} (h : Gff a w0 o) (h2 : ∀ v w, Fr (LawF a) w0 w → Gff a w0 (f v w)) : Gff a w0 (bnd o f) := fun r e => by
  obtain ⟨v, w, e1, e2⟩ := bnd_e e
  exact h2 v w (h _ e1) r e2
theorem Gv_b {o : Option (Int32 × Wd)} {f : Int32 → Wd → Option Wd} (h : Gff a w0 o) (h2 : ∀ v w, Fr (LawF a) w0 w → Gvv a w0 (f v w)) : Gvv a w0 (bnd o f) := fun r e => by
  obtain ⟨v, w, e1, e2⟩ := bnd_e e
  exact h2 v w (h _ e1) r e2
theorem Gf_v {o : Option Wd} {f : Wd → Option (Int32 × Wd)} (h : Gvv a w0 o) (h2 : ∀ w, Fr (LawF a) w0 w → Gff a w0 (f w)) : Gff a w0 (bnv o f) := fun r e => by
  obtain ⟨w, e1, e2⟩ := bnv_e e
  exact h2 w (h _ e1) r e2
theorem Gv_v {o : Option Wd} {f : Wd → Option Wd} (h : Gvv a w0 o) (h2 : ∀ w, Fr (LawF a) w0 w → Gvv a w0 (f w)) : Gvv a w0 (bnv o f) := fun r e => by
  obtain ⟨w, e1, e2⟩ := bnv_e e
  exact h2 w (h _ e1) r e2
theorem frA (h : Fr (LawF a) w0 w) {k : Nat} {v : Int32} : Fr (LawF a) w0 (sI w a k v) := h.tr Fr.ofI (fun _ h => h) (fun _ h => .inl h)
theorem frA1 (h : Fr (LawF a) w0 w) {k : Nat} {v : Int32} : Fr (LawF a) w0 (sI w (a + 1) k v) := h.tr Fr.ofI (fun _ h => h) (fun _ h => .inr (.inl h))
theorem frA4 (h : Fr (LawF a) w0 w) {k : Nat} {v : Int32} : Fr (LawF a) w0 (sI w (a + 4) k v) := h.tr Fr.ofI (fun _ h => h) (fun _ h => .inr (.inr h))
theorem fv_put (h : Fr (LawF a) w0 w) (x : Int32) : Gvv a w0 (P_X2_put F w a x) := by
  unfold P_X2_put
  exact Gv_i (Gv_s h) (Gv_i (Gv_s h) (Gv_g (Gv_s (frA (frA1 h)))))
theorem fv_hold (h : Fr (LawF a) w0 w) (x : Int32) : Gvv a w0 (P_X2_hold F w a x) := by
  unfold P_X2_hold
  exact Gv_i (Gv_s h) (Gv_i (Gv_s h) (Gv_g (Gv_s (frA (frA4 h)))))
theorem ff_rank (h : Fr (LawF a) w0 w) (x : Int32) : Gff a w0 (P_X2_rank F w x) := by
  rw [v_X2_rank]; exact Gf_s h
theorem fv_rel1 (x2 : Int32) (kk : Wd → Option Wd) (hk : ∀ w, Fr (LawF a) w0 w → Gvv a w0 (kk w)) : ∀ n w, Fr (LawF a) w0 w → Gvv a w0 (L_X2_release_0 F a x2 kk n w) := by
  intro n
  induction n with
  | zero => intro w h r e; rw [L_X2_release_0] at e; exact nn e
  | succ n ih =>
    intro w h
    rw [L_X2_release_0]
    exact Gv_i (hk w h) (Gv_i (hk w h) (Gv_g (Gv_b (ff_rank h _) (fun v w1 h1 => Gv_i (hk w1 h1) (Gv_g (Gv_v (fv_put (frA h1) _) (fun w2 h2 => ih w2 h2)))))))
theorem fv_release (h : Fr (LawF a) w0 w) (x : Int32) : Gvv a w0 (P_X2_release F w a x) := by
  unfold P_X2_release
  exact Gv_i (Gv_s h) (Gv_i (Gv_s h) (Gv_g (Gv_b (ff_rank h _) (fun v w1 h1 => Gv_i (Gv_s h1) (Gv_g (Gv_v (fv_put (frA h1) _) (fun w2 h2 => fv_rel1 x _ (fun w h => Gv_s h) F w2 h2)))))))
theorem fv_operate (h : Fr (LawF a) w0 w) (x : Int32) : Gvv a w0 (P_X2_operate F w a x) := by
  unfold P_X2_operate
  exact Gv_b (ff_rank h _) (fun v w1 h1 => Gv_v (fv_release h1 _) (fun w2 h2 => Gv_v (fv_hold h2 _) (fun w3 h3 => Gv_s (frA h3))))
theorem ff_close (h : Fr (LawF a) w0 w) : Gff a w0 (P_X2_close F w a) := by
  unfold P_X2_close
  exact Gf_i (Gf_s h) (Gf_i (Gf_v (fv_release h _) (fun w2 h2 => Gf_s (frA (frA (frA h2))))) (Gf_s h))
theorem ff_compare (h : Fr (LawF a) w0 w) (x : Int32) : Gff a w0 (P_X2_compare F w a x) := by
  unfold P_X2_compare
  exact Gf_i (Gf_v (fv_operate (frA h) _) (fun w2 h2 => Gf_s h2)) (Gf_s h)
theorem ff_lengthen (h : Fr (LawF a) w0 w) (x : Int32) : Gff a w0 (P_X2_lengthen F w a x) := by
  unfold P_X2_lengthen
  exact Gf_i (Gf_s h) (Gf_i (Gf_s h) (Gf_i (Gf_s h) (Gf_i (Gf_g (Gf_g (Gf_s (frA (frA1 h))))) (Gf_s h))))
theorem ff_open (h : Fr (LawF a) w0 w) : Gff a w0 (P_X2_open F w a) := by
  unfold P_X2_open
  exact Gf_i (Gf_v (fv_hold (frA h) _) (fun w2 h2 => Gf_s h2)) (Gf_s h)
theorem ff_133 (h : Fr (LawF a) w0 w) (x : Int32) : Gff a w0 (K_X2_goOn_133 F a x w) := by
  unfold K_X2_goOn_133
  exact Gf_b (ff_compare h _) (fun v w1 h1 => Gf_g (Gf_s h1))
theorem ff_139 (h : Fr (LawF a) w0 w) (x : Int32) : Gff a w0 (K_X2_goOn_139 F a x w) := by
  unfold K_X2_goOn_139
  exact Gf_v (fv_operate h _) (fun w2 h2 => Gf_s h2)
theorem ff_21 (h : Fr (LawF a) w0 w) (x : Int32) : Gff a w0 (K_X2_goOn_21 F a x w) := by
  unfold K_X2_goOn_21
  rw [lt_v]
  have h1 : Fr (LawF a) w0 (sI w a 8 0) := frA h
  generalize sI w a 8 0 = u at h1
  have hs := Gf_s (v := 0) h1
  have h3 := ff_133 (F := F) h1 x
  have h9 := ff_139 (F := F) h1 x
  exact Gf_i (Gf_b (ff_close h1) (fun v w1 h1 => Gf_g (Gf_s h1))) (Gf_i h9 (Gf_i h9 (Gf_i hs (Gf_i h9 (Gf_i hs (Gf_i h9 (Gf_i hs (Gf_i hs (Gf_i hs (Gf_i hs (Gf_i hs (Gf_i hs (Gf_i hs (Gf_i hs (Gf_i hs (Gf_i hs (Gf_i hs (Gf_i hs (Gf_i h3 (Gf_i h3 (Gf_i h3 hs)))))))))))))))))))))
theorem ff_goOn (h : Fr (LawF a) w0 w) (x : Int32) : Gff a w0 (P_X2_goOn F w a x) := by
  unfold P_X2_goOn
  exact Gf_i (ff_21 h _) (Gf_i (ff_21 h _) (Gf_b (ff_lengthen h _) (fun v w1 h1 => Gf_g (Gf_s h1))))
theorem ff_61 (h : Fr (LawF a) w0 w) (x y z : Int32) : Gff a w0 (K_X2_begin_61 F a x w y z) := by
  unfold K_X2_begin_61
  rw [lt_v]
  exact Gf_v (fv_put h _) (fun w2 h2 => Gf_s (frA (frA h2)))
theorem ff_begin (hF : 100 ≤ F) (h : Fr (LawF a) w0 w) {c : Nat} (hc : c < 256) : Gff a w0 (P_X2_begin F w a (nI c)) := by
  unfold P_X2_begin
  rw [i2c_all c hc, bnd_r (v_J0_indexOf hF w hc), lt_v]
  exact Gf_i (Gf_v (fv_hold h _) (fun w2 h2 => Gf_s h2)) (Gf_i (Gf_b (ff_open h) (fun v w1 h1 => Gf_g (Gf_s h1))) (Gf_i (Gf_i (ff_61 h _ _ _) (Gf_s h)) (ff_61 h _ _ _)))
theorem ff_123 (h : Fr (LawF a) w0 w) : Gff a w0 (K_X2_read_123 F a w) := by
  unfold K_X2_read_123
  exact Gf_v (fv_release h _) (fun w2 h2 => Gf_s h2)
theorem ff_rdK (h : Fr (LawF a) w0 w) (x : Int32) : Gff a w0 (rdK F a x w) := by
  unfold rdK
  exact Gf_i (Gf_i (ff_123 h) (Gf_i (Gf_s h) (Gf_i (ff_123 h) (Gf_s h)))) (Gf_s h)
theorem ff_42 (hF : 100 ≤ F) (ha : a = 12 ∨ a = 18) {t : Nat → Int32} {n e : Nat} (hx : TxC w0 t n) (he : e ≤ n) (hs : ∀ q, q < e → ∃ c : Nat, c < 256 ∧ atP t e q = nI c) (y : Int32) : ∀ f p w, p ≤ e → Fr (LawF a) w0 w → Gff a w0 (L_X2_read_42 F a (nI e) (rdK F a y) f w (nI p)) := by
  have hn := hx.2.1
  intro f
  induction f with
  | zero => intro p w _ h r e; rw [L_X2_read_42] at e; exact nn e
  | succ f ih =>
    intro p w hp h
    rw [L_X2_read_42]
    by_cases c : p < e
    · obtain ⟨c0, c1, c2⟩ := hs p c
      have hx1 : TxC w t n := LawF_x hx ha h
      have k76 : ∀ v w1, Fr (LawF a) w0 w1 → Gff a w0 (K_X2_read_76 F a (nI e) (rdK F a y) (L_X2_read_42 F a (nI e) (rdK F a y) f) w1 (nI p) v) := fun v w1 h1 => by
        unfold K_X2_read_76
        rw [lt_v, nI_1]
        exact Gf_i (Gf_s h1) (ih (p + 1) w1 c h1)
      rw [if_neg (nI_ge c (by omega)), bnd_r (v_X8_at F hx1 p (by omega)), at_ne he c, c2]
      exact Gf_i (Gf_b (ff_begin hF h c1) k76) (Gf_b (ff_goOn h _) k76)
    · rw [if_pos (nI_le (by omega) (by omega))]
      exact ff_rdK h y
end FA
-- ===== a rule's words: as a list, the latest first =====
def cdL : List Int32 → Nat → Int32
  | [], _ => 0
  | x :: M, k => if k = M.length then x else cdL M k
theorem LsR_cd {w : Wd} {a : Nat} : ∀ {M : List Int32}, LsR w a M → ∀ k, k < M.length → gI w a k = cdL M k := by
  intro M
  induction M with
  | nil => intro _ k hk; exact absurd hk (Nat.not_lt_zero _)
  | cons x M ih =>
    intro h k hk
    have hk : k < M.length + 1 := hk
    rw [cdL]
    by_cases c : k = M.length
    · rw [if_pos c, c]; exact h.1
    · rw [if_neg c]; exact ih h.2 k (by omega)
theorem cdL_map (f : Int32 → Int32) : ∀ (C : List Int32) (k : Nat), k < C.length → cdL (C.map f) k = f (cdL C k) := by
  intro C
  induction C with
  | nil => intro k hk; exact absurd hk (Nat.not_lt_zero _)
  | cons x C ih =>
    intro k hk
    have hk : k < C.length + 1 := hk
    show (if k = (C.map f).length then f x else cdL (C.map f) k) = f (if k = C.length then x else cdL C k)
    rw [List.length_map]
    by_cases c : k = C.length
    · rw [if_pos c, if_pos c]
    · rw [if_neg c, if_neg c]; exact ih k (by omega)
def hL : List Int32 → Nat
  | [] => 0
  | x :: M => if x = 3000 then hL M else if 2000 ≤ x then hL M - 1 else hL M + 1
/-- words that can be worked out -/
def okSw : List Int32 → Prop
  | [] => True
  | x :: M => okSw M ∧ okw x ∧ 1 ≤ hL (x :: M) ∧ (2000 ≤ x → ¬ x = 3000 → 2 ≤ hL M)
theorem hgt_ext {f g : Nat → Int32} : ∀ n, (∀ k, k < n → f k = g k) → hgt f n = hgt g n := by
  intro n
  induction n with
  | zero => intro _; rfl
  | succ n ih =>
    intro h
    rw [hgt_s, hgt_s, ih (fun k hk => h k (by omega)), h n (by omega)]
theorem hgt_cd : ∀ M : List Int32, hgt (cdL M) M.length = hL M := by
  intro M
  induction M with
  | nil => rfl
  | cons x M ih =>
    have e : hgt (cdL (x :: M)) M.length = hL M := by
      rw [← ih]
      exact hgt_ext _ (fun k hk => by rw [cdL, if_neg (by omega)])
    have ex : cdL (x :: M) M.length = x := by rw [cdL, if_pos rfl]
    show hgt (cdL (x :: M)) (M.length + 1) = _
    rw [hgt_s, ex, e]; rfl
theorem okR_ext {f g : Nat → Int32} {n : Nat} (h : ∀ k, k < n → f k = g k) (ok : okR f n) : okR g n := by
  obtain ⟨a1, a2, a3, a4⟩ := ok
  refine ⟨a1, fun k hk => by rw [← h k hk]; exact a2 k hk, fun k hk => ?_, fun k hk => ?_⟩
  · rw [← hgt_ext (k + 1) (fun j hj => h j (by omega))]; exact a3 k hk
  · rw [← h k hk, ← hgt_ext k (fun j hj => h j (by omega))]; exact a4 k hk
theorem okSw_R : ∀ M : List Int32, okSw M → M.length ≤ 40 → okR (cdL M) M.length := by
  intro M
  induction M with
  | nil => intro _ _; exact ⟨Nat.zero_le _, fun k hk => absurd hk (Nat.not_lt_zero _), fun k hk => absurd hk (Nat.not_lt_zero _), fun k hk => absurd hk (Nat.not_lt_zero _)⟩
  | cons x M ih =>
    intro h hl
    have hl : M.length + 1 ≤ 40 := hl
    obtain ⟨h1, h2, h3, h4⟩ := h
    obtain ⟨a1, a2, a3, a4⟩ := ih h1 (by omega)
    have el : (x :: M).length = M.length + 1 := rfl
    have elt : ∀ k, k < M.length → cdL M k = cdL (x :: M) k := fun k hk => by rw [cdL, if_neg (by omega)]
    have ex : cdL (x :: M) M.length = x := by rw [cdL, if_pos rfl]
    have hM : hgt (cdL (x :: M)) M.length = hL M := by
      rw [← hgt_cd M]
      exact hgt_ext _ (fun k hk => (elt k hk).symm)
    refine ⟨hl, fun k hk => ?_, fun k hk => ?_, fun k hk => ?_⟩
    · by_cases c : k = M.length
      · rw [c, ex]; exact h2
      · rw [← elt k (by omega)]; exact a2 k (by omega)
    · by_cases c : k = M.length
      · rw [c]
        have := hgt_cd (x :: M)
        rw [el] at this
        rw [this]; exact h3
      · rw [← hgt_ext (k + 1) (fun j hj => elt j (by omega))]; exact a3 k (by omega)
    · by_cases c : k = M.length
      · rw [c, ex, hM]; exact h4
      · rw [← elt k (by omega), ← hgt_ext k (fun j hj => elt j (by omega))]; exact a4 k (by omega)
-- what a good reading gives can be worked out
theorem okw_num {y : Nat} (h : y ≤ 1006) : okw (nI y) ∧ ¬ nI y = 3000 ∧ ¬ (2000 : Int32) ≤ nI y := ⟨.inl ⟨nI_le (a := 0) (b := y) (by omega) (by omega), nI_le (a := y) (b := 1006) h (by decide)⟩, fun q => absurd ((nI_eq (a := y) (b := 3000) (by omega) (by decide)).mp q) (by omega), nI_ge (a := y) (b := 2000) (by omega) (by decide)⟩
theorem okSw_num {y : Nat} (h : y ≤ 1006) {M : List Int32} (hM : okSw M) : okSw (nI y :: M) ∧ hL (nI y :: M) = hL M + 1 := by
  obtain ⟨a1, a2, a3⟩ := okw_num h
  have e : hL (nI y :: M) = hL M + 1 := by rw [hL, if_neg a2, if_neg a3]
  exact ⟨⟨hM, a1, by omega, fun z => absurd z a3⟩, e⟩
theorem okSw_neg {M : List Int32} (hM : okSw M) (h : 1 ≤ hL M) : okSw (3000 :: M) ∧ hL (3000 :: M) = hL M := by
  have e : hL (3000 :: M) = hL M := by rw [hL, if_pos rfl]
  exact ⟨⟨hM, .inr (.inr rfl), by omega, fun _ z => absurd rfl z⟩, e⟩
theorem op_w (k : Nat) (hk : k < 3) {x : Int32} (h : ¬ amO (opA k) x < 0) : ∃ j : Nat, j ≤ 6 ∧ 2000 + amO (opA k) x + opC k = nI (2000 + j) := by
  rcases (show k = 0 ∨ k = 1 ∨ k = 2 by omega) with rfl | rfl | rfl
  · have e : amO (opA 0) x = if (60 : Int32) = x then 0 else if (62 : Int32) = x then 1 else if (61 : Int32) = x then 2 else -1 := rfl
    rw [e] at h ⊢
    by_cases c1 : (60 : Int32) = x
    · rw [if_pos c1]; exact ⟨0, by omega, by decide⟩
    rw [if_neg c1] at h ⊢
    by_cases c2 : (62 : Int32) = x
    · rw [if_pos c2]; exact ⟨1, by omega, by decide⟩
    rw [if_neg c2] at h ⊢
    by_cases c3 : (61 : Int32) = x
    · rw [if_pos c3]; exact ⟨2, by omega, by decide⟩
    rw [if_neg c3] at h
    exact absurd (by decide) h
  · have e : amO (opA 1) x = if (43 : Int32) = x then 0 else if (45 : Int32) = x then 1 else -1 := rfl
    rw [e] at h ⊢
    by_cases c1 : (43 : Int32) = x
    · rw [if_pos c1]; exact ⟨3, by omega, by decide⟩
    rw [if_neg c1] at h ⊢
    by_cases c2 : (45 : Int32) = x
    · rw [if_pos c2]; exact ⟨4, by omega, by decide⟩
    rw [if_neg c2] at h
    exact absurd (by decide) h
  · have e : amO (opA 2) x = if (42 : Int32) = x then 0 else if (47 : Int32) = x then 1 else -1 := rfl
    rw [e] at h ⊢
    by_cases c1 : (42 : Int32) = x
    · rw [if_pos c1]; exact ⟨5, by omega, by decide⟩
    rw [if_neg c1] at h ⊢
    by_cases c2 : (47 : Int32) = x
    · rw [if_pos c2]; exact ⟨6, by omega, by decide⟩
    rw [if_neg c2] at h
    exact absurd (by decide) h
theorem okSw_op {j : Nat} (h : j ≤ 6) {M : List Int32} (hM : okSw M) (h2 : 2 ≤ hL M) : okSw (nI (2000 + j) :: M) ∧ hL (nI (2000 + j) :: M) = hL M - 1 := by
  have a1 : okw (nI (2000 + j)) := .inr (.inl ⟨nI_le (a := 2000) (b := 2000 + j) (by omega) (by omega), nI_le (a := 2000 + j) (b := 2006) (by omega) (by decide)⟩)
  have a2 : ¬ nI (2000 + j) = 3000 := fun q => absurd ((nI_eq (a := 2000 + j) (b := 3000) (by omega) (by decide)).mp q) (by omega)
  have a3 : (2000 : Int32) ≤ nI (2000 + j) := nI_le (a := 2000) (b := 2000 + j) (by omega) (by omega)
  have e : hL (nI (2000 + j) :: M) = hL M - 1 := by rw [hL, if_neg a2, if_pos a3]
  exact ⟨⟨hM, a1, by omega, fun _ _ => h2⟩, e⟩
/-- from words so high a good reading makes them higher by one -/
def Up (f : Nat → List Int32 → Rs) : Prop := ∀ p M, okSw M → (f p M).1 = true → okSw (f p M).2.2 ∧ hL (f p M).2.2 = hL M + 1
theorem up_loop {f : Nat → List Int32 → Rs} (hf : Up f) {t : Nat → Int32} {e k : Nat} (hk : k < 3) : ∀ m p M h, okSw M → hL M = h + 1 → (lpR f t e k m p M).1 = true → okSw (lpR f t e k m p M).2.2 ∧ hL (lpR f t e k m p M).2.2 = h + 1 := by
  intro m
  induction m with
  | zero => intro p M h _ _ z; exact absurd (show false = true from z) (by decide)
  | succ m ih =>
    intro p M h hM hh
    rw [lpR]
    by_cases c : amO (opA k) (atP t e p) < 0
    · rw [if_pos c]; intro _; exact ⟨hM, hh⟩
    rw [if_neg c]
    by_cases c2 : (f (p + 1) M).1 = true
    · rw [if_pos c2]
      obtain ⟨a1, a2⟩ := hf (p + 1) M hM c2
      obtain ⟨j, j1, j2⟩ := op_w k hk c
      obtain ⟨b1, b2⟩ := okSw_op j1 a1 (by omega)
      rw [j2]
      by_cases k0 : k = 0
      · rw [if_pos k0]; intro _; exact ⟨b1, by show hL (nI (2000 + j) :: (f (p + 1) M).2.2) = h + 1; omega⟩
      · rw [if_neg k0]; exact ih _ _ h b1 (by omega)
    · rw [if_neg c2]; intro z; exact absurd (show false = true from z) (by decide)
theorem up_all {t : Nat → Int32} {e : Nat} : ∀ D k d, k ≤ 4 → Up (fun p M => rD t e D k p d M) := by
  intro D
  induction D with
  | zero => intro k d _ p M _ z; exact absurd (show false = true from z) (by decide)
  | succ D ih =>
    intro k d hk p M hM
    show (rD t e (D + 1) k p d M).1 = true → okSw (rD t e (D + 1) k p d M).2.2 ∧ hL (rD t e (D + 1) k p d M).2.2 = hL M + 1
    rw [rD]
    by_cases k4 : k = 4
    · rw [if_pos k4]
      by_cases c0 : atP t e p = 45
      · rw [if_pos c0]
        intro z
        obtain ⟨a1, a2⟩ := ih 4 d (by omega) (p + 1) M hM z
        have a2 : hL (rD t e D 4 (p + 1) d M).2.2 = hL M + 1 := a2
        obtain ⟨b1, b2⟩ := okSw_neg a1 (by show 1 ≤ hL (rD t e D 4 (p + 1) d M).2.2; omega)
        exact ⟨b1, b2.trans a2⟩
      rw [if_neg c0]
      by_cases c1 : dgP t e p
      · rw [if_pos c1]
        intro _
        obtain ⟨y, y1, y2⟩ := val_nn (t := t) (e := e) (d := 3) (p := p) (by decide)
        rw [y1]
        exact okSw_num (by omega) hM
      rw [if_neg c1]
      by_cases c2 : ¬ amS 0 (atP t e p) < 0
      · rw [if_pos c2]
        intro _
        obtain ⟨y, y1, y2⟩ := am0_n c2
        rw [y2, show (1000 : Int32) + nI y = nI (1000 + y) from nI_add 1000 y]
        exact okSw_num (by omega) hM
      rw [if_neg c2]
      by_cases c3 : d = 4 ∨ ¬ atP t e p = 40
      · rw [if_pos c3]; intro z; exact absurd (show false = true from z) (by decide)
      rw [if_neg c3]
      by_cases c4 : (rD t e D 0 (p + 1) (d + 1) M).1 = true
      · rw [if_pos c4]
        by_cases c5 : atP t e (rD t e D 0 (p + 1) (d + 1) M).2.1 = 41
        · rw [if_pos c5]; intro _; exact ih 0 (d + 1) (by omega) (p + 1) M hM c4
        · rw [if_neg c5]; intro z; exact absurd (show false = true from z) (by decide)
      · rw [if_neg c4]; intro z; exact absurd (show false = true from z) (by decide)
    rw [if_neg k4]
    by_cases k3 : k = 3
    · rw [if_pos k3]; exact ih 4 d (by omega) p M hM
    rw [if_neg k3]
    by_cases c : (rD t e D (k + 1) p d M).1 = true
    · rw [if_pos c]
      obtain ⟨a1, a2⟩ := ih (k + 1) d (by omega) p M hM c
      exact up_loop (ih (k + 1) d (by omega)) (by omega) 41 _ _ (hL M) a1 a2
    · rw [if_neg c]; intro z; exact absurd (show false = true from z) (by decide)
/-- the words of a text without a fault -/
theorem wU_ok {t : Nat → Int32} {n : Nat} (h : (wU t n).1 = true) : okSw (wU t n).2.2 := by
  unfold wU at h ⊢
  by_cases c : n = 0
  · rw [if_pos c]; trivial
  · rw [if_neg c] at h ⊢
    exact (up_all (t := t) (e := min n 40) 100 0 0 (by omega) 0 [] trivial h).1
theorem okc_of {c : Int32} (h : okw (trc c)) : okc c := by
  unfold trc at h
  by_cases c0 : c < 1010
  · rw [if_pos c0] at h
    rcases h with h | h | h
    · exact .inl h
    · exfalso
      have h1 := h.1
      rw [Int32.le_iff_toInt_le] at h1
      rw [Int32.lt_iff_toInt_lt] at c0
      have e1 : (2000 : Int32).toInt = 2000 := by decide
      have e2 : (1010 : Int32).toInt = 1010 := by decide
      omega
    · rw [h] at c0; exact absurd c0 (by decide)
  rw [if_neg c0] at h
  unfold okc
  by_cases c1 : c = 1136
  · exact .inr (.inl c1)
  rw [if_neg c1] at h
  by_cases c2 : c = 1070
  · exact .inr (.inr (.inl c2))
  rw [if_neg c2] at h
  by_cases c3 : c = 1072
  · exact .inr (.inr (.inr (.inl c3)))
  rw [if_neg c3] at h
  by_cases c4 : c = 1071
  · exact .inr (.inr (.inr (.inr (.inl c4))))
  rw [if_neg c4] at h
  by_cases c5 : c = 1053
  · exact .inr (.inr (.inr (.inr (.inr (.inl c5)))))
  rw [if_neg c5] at h
  by_cases c6 : c = 1055
  · exact .inr (.inr (.inr (.inr (.inr (.inr (.inl c6))))))
  rw [if_neg c6] at h
  by_cases c7 : c = 1052
  · exact .inr (.inr (.inr (.inr (.inr (.inr (.inr (.inl c7)))))))
  rw [if_neg c7] at h
  by_cases c8 : c = 1057
  · exact .inr (.inr (.inr (.inr (.inr (.inr (.inr (.inr c8)))))))
  rw [if_neg c8] at h
  exfalso
  unfold okw at h
  revert h
  decide

