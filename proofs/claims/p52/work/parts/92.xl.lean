-- ===== a rule's text: the class's stacks =====
/-- a row of ints as a list, the latest first -/
def LsR (w : Wd) (a : Nat) : List Int32 → Prop
  | [] => True
  | x :: l => gI w a l.length = x ∧ LsR w a l
theorem LsR_eq {w w2 : Wd} {a : Nat} : ∀ {l : List Int32}, LsR w a l → (∀ k, k < l.length → gI w2 a k = gI w a k) → LsR w2 a l := by
  intro l
  induction l with
  | nil => intro _ _; trivial
  | cons x l ih =>
    intro h e
    exact ⟨by rw [e l.length (by show l.length < l.length + 1; omega)]; exact h.1, ih h.2 (fun k hk => e k (by show k < l.length + 1; omega))⟩
def rkN (x : Int32) : Nat := if x = 42 then 3 else if x = 43 then 2 else if x = 45 then 2 else if x = 47 then 3 else if x = 60 then 1 else if x = 61 then 1 else if x = 62 then 1 else if x = 126 then 4 else 0
theorem rkN_le (x : Int32) : rkN x ≤ 4 := by
  unfold rkN
  by_cases c1 : x = 42
  · rw [if_pos c1]; omega
  rw [if_neg c1]
  by_cases c2 : x = 43
  · rw [if_pos c2]; omega
  rw [if_neg c2]
  by_cases c3 : x = 45
  · rw [if_pos c3]; omega
  rw [if_neg c3]
  by_cases c4 : x = 47
  · rw [if_pos c4]; omega
  rw [if_neg c4]
  by_cases c5 : x = 60
  · rw [if_pos c5]; omega
  rw [if_neg c5]
  by_cases c6 : x = 61
  · rw [if_pos c6]; omega
  rw [if_neg c6]
  by_cases c7 : x = 62
  · rw [if_pos c7]; omega
  rw [if_neg c7]
  by_cases c8 : x = 126
  · rw [if_pos c8]; omega
  · rw [if_neg c8]; omega
theorem v_X2_rank (F : Nat) (w : Wd) (x : Int32) : P_X2_rank F w x = some (nI (rkN x), w) := by
  unfold P_X2_rank rkN
  by_cases c1 : x = 42
  · rw [if_pos c1, if_pos c1]; rfl
  rw [if_neg c1, if_neg c1]
  by_cases c2 : x = 43
  · rw [if_pos c2, if_pos c2]; rfl
  rw [if_neg c2, if_neg c2]
  by_cases c3 : x = 45
  · rw [if_pos c3, if_pos c3]; rfl
  rw [if_neg c3, if_neg c3]
  by_cases c4 : x = 47
  · rw [if_pos c4, if_pos c4]; rfl
  rw [if_neg c4, if_neg c4]
  by_cases c5 : x = 60
  · rw [if_pos c5, if_pos c5]; rfl
  rw [if_neg c5, if_neg c5]
  by_cases c6 : x = 61
  · rw [if_pos c6, if_pos c6]; rfl
  rw [if_neg c6, if_neg c6]
  by_cases c7 : x = 62
  · rw [if_pos c7, if_pos c7]; rfl
  rw [if_neg c7, if_neg c7]
  by_cases c8 : x = 126
  · rw [if_pos c8, if_pos c8]; rfl
  · rw [if_neg c8, if_neg c8]; rfl
/-- the class's reading: code and what waits (both the latest first), depth, bits, digits, behind -/
def LsC (w : Wd) (a : Nat) (C W : List Int32) (d : Nat) (m : Int32) (g : Nat) (h : Bool) : Prop := gI w a 1 = nI C.length ∧ LsR w (a + 1) C ∧ gI w a 5 = nI W.length ∧ LsR w (a + 4) W ∧ gI w a 6 = nI d ∧ gI w a 7 = m ∧ gI w a 8 = nI g ∧ gI w a 9 = if h then 1 else 0
def LawF (a : Nat) (b : Nat) : Prop := b = a ∨ b = a + 1 ∨ b = a + 4
theorem v_X2_put (F : Nat) {w : Wd} {a : Nat} {C W : List Int32} {d : Nat} {m : Int32} {g : Nat} {hb : Bool} (h : LsC w a C W d m g hb) (hl : C.length < 40) (x : Int32) : ∃ w2, P_X2_put F w a x = some w2 ∧ Fr (LawF a) w w2 ∧ LsC w2 a (x :: C) W d m g hb := by
  obtain ⟨h1, h2, h3, h4, h5, h6, h7, h8⟩ := h
  unfold P_X2_put
  rw [h1, if_neg (nI_pos (by omega)), if_neg (show ¬ (40 : Int32) ≤ nI C.length from nI_ge (a := C.length) (b := 40) hl (by decide)), gd_t (inB_n hl (by omega)), nI_clamp (by omega), lt_v, gIa (by omega), h1, nI_1, lt_v]
  refine ⟨_, rfl, (Fr.ofI (a := a + 1)).tr (Fr.ofI (a := a)) (fun b hb => .inr (.inl hb)) (fun b hb => .inl hb), gIs, ⟨by rw [gIa (by omega), gIs], LsR_eq h2 (fun k hk => by rw [gIa (by omega), gIk (by omega)])⟩, by rw [gIk (by decide), gIa (by omega)]; exact h3, LsR_eq h4 (fun k hk => by rw [gIa (by omega), gIa (by omega)]), by rw [gIk (by decide), gIa (by omega)]; exact h5, by rw [gIk (by decide), gIa (by omega)]; exact h6, by rw [gIk (by decide), gIa (by omega)]; exact h7, by rw [gIk (by decide), gIa (by omega)]; exact h8⟩
theorem v_X2_hold (F : Nat) {w : Wd} {a : Nat} {C W : List Int32} {d : Nat} {m : Int32} {g : Nat} {hb : Bool} (h : LsC w a C W d m g hb) (hl : W.length < 40) (x : Int32) : ∃ w2, P_X2_hold F w a x = some w2 ∧ Fr (LawF a) w w2 ∧ LsC w2 a C (x :: W) d m g hb := by
  obtain ⟨h1, h2, h3, h4, h5, h6, h7, h8⟩ := h
  unfold P_X2_hold
  rw [h3, if_neg (nI_pos (by omega)), if_neg (show ¬ (40 : Int32) ≤ nI W.length from nI_ge (a := W.length) (b := 40) hl (by decide)), gd_t (inB_n hl (by omega)), nI_clamp (by omega), lt_v, gIa (by omega), h3, nI_1, lt_v]
  refine ⟨_, rfl, (Fr.ofI (a := a + 4)).tr (Fr.ofI (a := a)) (fun b hb => .inr (.inr hb)) (fun b hb => .inl hb), by rw [gIk (by decide), gIa (by omega)]; exact h1, LsR_eq h2 (fun k hk => by rw [gIa (by omega), gIa (by omega)]), gIs, ⟨by rw [gIa (by omega), gIs], LsR_eq h4 (fun k hk => by rw [gIa (by omega), gIk (by omega)])⟩, by rw [gIk (by decide), gIa (by omega)]; exact h5, by rw [gIk (by decide), gIa (by omega)]; exact h6, by rw [gIk (by decide), gIa (by omega)]; exact h7, by rw [gIk (by decide), gIa (by omega)]; exact h8⟩
def relW (r : Nat) : List Int32 → List Int32
  | [] => []
  | x :: W => if rkN x < r then x :: W else relW r W
def relC (r : Nat) : List Int32 → List Int32 → List Int32
  | [], C => C
  | x :: W, C => if rkN x < r then C else relC r W ((1010 + x) :: C)
theorem rel_len (r : Nat) : ∀ W C, (relW r W).length + (relC r W C).length = W.length + C.length := by
  intro W
  induction W with
  | nil => intro C; rfl
  | cons x W ih =>
    intro C
    rw [relW, relC]
    by_cases c : rkN x < r
    · rw [if_pos c, if_pos c]
    · rw [if_neg c, if_neg c, ih]
      show W.length + (C.length + 1) = W.length + 1 + C.length
      omega
theorem rel_step (F : Nat) {w : Wd} {a : Nat} {C W : List Int32} {d : Nat} {m : Int32} {g : Nat} {hb : Bool} (h : LsC w a C W d m g hb) {x : Int32} {W' : List Int32} (eW : W = x :: W') (hl : C.length + W.length ≤ 40) : ∃ w2, P_X2_put F (sI w a 5 ((gI w a 5) - 1)) a (1010 + (gI (sI w a 5 ((gI w a 5) - 1)) (a + 4) (gI (sI w a 5 ((gI w a 5) - 1)) a 5).toNatClampNeg)) = some w2 ∧ Fr (LawF a) w w2 ∧ LsC w2 a ((1010 + x) :: C) W' d m g hb := by
  obtain ⟨h1, h2, h3, h4, h5, h6, h7, h8⟩ := h
  rw [eW] at h3 h4 hl
  have el : (x :: W').length = W'.length + 1 := rfl
  have e5 : gI w a 5 - 1 = nI W'.length := by rw [h3, el, nI_pred]
  rw [e5, gIs, nI_clamp (by omega), gIa (by omega), h4.1]
  have q : LsC (sI w a 5 (nI W'.length)) a C W' d m g hb := ⟨by rw [gIk (by decide)]; exact h1, LsR_eq h2 (fun k _ => gIa (by omega)), gIs, LsR_eq h4.2 (fun k _ => gIa (by omega)), by rw [gIk (by decide)]; exact h5, by rw [gIk (by decide)]; exact h6, by rw [gIk (by decide)]; exact h7, by rw [gIk (by decide)]; exact h8⟩
  obtain ⟨w2, a1, a2, a3⟩ := v_X2_put F q (by omega) (1010 + x)
  exact ⟨w2, a1, (Fr.ofI (a := a)).tr a2 (fun b hb => .inl hb) (fun _ h => h), a3⟩
theorem l_X2_release {F : Nat} (a r : Nat) (hr : r ≤ 4) (kk : Wd → Option Wd) : ∀ (W : List Int32) (f : Nat) (w : Wd) (C : List Int32) (d : Nat) (m : Int32) (g : Nat) (hb : Bool), W.length < f → LsC w a C W d m g hb → C.length + W.length ≤ 40 → ∃ w2, L_X2_release_0 F a (nI r) kk f w = kk w2 ∧ Fr (LawF a) w w2 ∧ LsC w2 a (relC r W C) (relW r W) d m g hb := by
  intro W
  induction W with
  | nil =>
    intro f w C d m g hb hf h hl
    obtain ⟨f, rfl⟩ : ∃ q, f = q + 1 := ⟨f - 1, by have : (0 : Nat) < f := hf; omega⟩
    have e5 : gI w a 5 = 0 := by rw [h.2.2.1]; rfl
    rw [L_X2_release_0, e5, if_pos (show (0 : Int32) ≤ 0 from by decide)]
    exact ⟨w, rfl, Fr.rfl', h⟩
  | cons x W ih =>
    intro f w C d m g hb hf h hl
    have el : (x :: W).length = W.length + 1 := rfl
    obtain ⟨f, rfl⟩ : ∃ q, f = q + 1 := ⟨f - 1, by omega⟩
    have hl' : C.length + (W.length + 1) ≤ 40 := hl
    have e5 : gI w a 5 = nI (W.length + 1) := h.2.2.1
    have ex : gI w (a + 4) W.length = x := h.2.2.2.1.1
    obtain ⟨w1, a1, a2, a3⟩ := rel_step F h rfl hl
    rw [L_X2_release_0]
    rw [if_neg (show ¬ gI w a 5 ≤ 0 from by rw [e5]; exact nI_nle (by omega) (by omega)), if_neg (show ¬ (40 : Int32) < gI w a 5 from by rw [e5]; exact nI_nlt (a := 40) (b := W.length + 1) (by omega) (by omega)), gd_t (show inB (gI w a 5 - 1) 40 = true from by rw [e5, nI_pred]; exact inB_n (by omega) (by omega)), show (gI w a 5 - 1).toNatClampNeg = W.length from by rw [e5, nI_pred]; exact nI_clamp (by omega), ex, bnd_r (v_X2_rank F w x), relW, relC]
    by_cases c : rkN x < r
    · rw [if_pos (nI_lt c (by omega)), if_pos c, if_pos c]
      exact ⟨w, rfl, Fr.rfl', h⟩
    · rw [if_neg (nI_nlt (by omega) (by have := rkN_le x; omega)), if_neg c, if_neg c, lt_v, gd_t (show inB (gI (sI w a 5 (gI w a 5 - 1)) a 5) 40 = true from by rw [gIs, e5, nI_pred]; exact inB_n (by omega) (by omega)), bnv_r a1]
      obtain ⟨w2, b1, b2, b3⟩ := ih f w1 _ _ _ _ _ (by omega) a3 (by show C.length + 1 + W.length ≤ 40; omega)
      exact ⟨w2, b1, a2.tr b2 (fun _ h => h) (fun _ h => h), b3⟩
theorem v_X2_release {F : Nat} (hF : 100 ≤ F) {w : Wd} {a : Nat} {C W : List Int32} {d : Nat} {m : Int32} {g : Nat} {hb : Bool} (h : LsC w a C W d m g hb) (r : Nat) (hr : r ≤ 4) (hl : C.length + W.length ≤ 40) : ∃ w2, P_X2_release F w a (nI r) = some w2 ∧ Fr (LawF a) w w2 ∧ LsC w2 a (relC r W C) (relW r W) d m g hb := by
  obtain ⟨w2, a1, a2, a3⟩ := l_X2_release (F := F) a r hr (fun w => some w) W (F + 1) w _ _ _ _ _ (by omega) h hl
  refine ⟨w2, ?_, a2, a3⟩
  rw [← a1, L_X2_release_0]; rfl

