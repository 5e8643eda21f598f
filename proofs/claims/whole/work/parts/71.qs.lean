-- ===== what is undone =====
def b00 : Bl := fun _ => 0
abbrev Us : Type := List Bl
def psh (b : Bl) (u : Us) : Us := (b :: u).take 15
def pshU (a : Int32) (b : Bl) (u : Us) : Us := if a < 0 then u else psh b u
theorem psh_len (b : Bl) (u : Us) (h : u.length ≤ 15) : (psh b u).length = if u.length = 15 then 15 else u.length + 1 := by
  unfold psh
  rw [List.length_take, List.length_cons]
  split <;> omega
theorem psh_get (b : Bl) (u : Us) (h : u.length ≤ 15) (i : Nat) (hi : i < (psh b u).length) : (psh b u).getD i b00 = if i = 0 then b else u.getD (i - 1) b00 := by
  have hl := psh_len b u h
  unfold psh at hi ⊢
  rw [List.length_take] at hi
  rw [List.getD_eq_getElem?_getD, List.getElem?_take, if_pos (by omega)]
  cases i with
  | zero => rfl
  | succ i => rw [if_neg (by omega)]; rfl
def PsC (w : Wd) (u : Us) : Prop := ∃ x : Nat, x < 15 ∧ gI w 29 1 = nI x ∧ u.length ≤ 15 ∧ gI w 29 2 = nI u.length ∧ ∀ i, i < u.length → bC w (31 + 2 * ((x + 14 - i) % 15)) = u.getD i b00
def PsM (w : Wd) (u : Us) : Prop := u.length ≤ 15 ∧ gI w 88 26 = nI u.length ∧ ∀ i, i < u.length → ∀ k, k < 16 → gI w 103 (16 * (u.length - 1 - i) + k) = u.getD i b00 k
theorem isX1_pa : ∀ i : Nat, i < 15 → isX1 (31 + 2 * i) = true := by decide
theorem rem15 {a : Nat} (h : a < 100) : iremI (nI a) 15 = nI (a % 15) := pk_rem (a := a) (d := 15) (by omega) (by decide) (by decide)
def PaC (b : Nat) : Prop := 29 ≤ b ∧ b ≤ 60
theorem v_X4_push {F : Nat} (hF : 100 ≤ F) {w : Wd} {u : Us} (h : PsC w u) (a : Nat) (ha : a = 27) : ∃ w2, P_X4_push F w a = some w2 ∧ Fr PaC w w2 ∧ PsC w2 (psh (bC w a) u) := by
  subst ha
  obtain ⟨x, h1, h2, h3, h4, h5⟩ := h
  unfold P_X4_push
  rw [h2, if_neg (nI_pos (by omega)), if_neg (show ¬ (15 : Int32) ≤ nI x from nI_ge (a := x) (b := 15) h1 (by decide)), gd_t (inB_n h1 (by omega)), lt_v, nI_clamp (by omega), gd_t (isX1_pa x h1)]
  obtain ⟨w1, a1, a2, a3⟩ := v_X1_copy hF w (31 + 2 * x) 27 (by omega) (by omega) (by omega)
  have k29 : ∀ k, gI w1 29 k = gI w 29 k := (a2 29 (by omega)).1
  rw [bnv_r a1, lt_v, k29, h2, nI_1, rem15 (by omega), lt_v, gIk (show (2 : Nat) ≠ 1 by decide), k29, h4, nI_1]
  have hmin : minI 15 (nI (u.length + 1)) = nI (psh (bC w 27) u).length := by
    rw [psh_len _ _ h3]
    unfold minI
    by_cases c : u.length = 15
    · rw [if_pos c, c]; rfl
    · rw [if_neg c]
      by_cases c2 : nI (u.length + 1) < 15
      · rw [if_pos c2]
      · rw [if_neg c2]
        have : ¬ u.length + 1 < 15 := fun q => c2 (nI_lt (a := u.length + 1) (b := 15) q (by decide))
        rw [show u.length + 1 = 15 by omega]; rfl
  rw [hmin]
  refine ⟨_, rfl, ((a2.imp (fun b hb => ?_)).tr (Fr.ofI.imp (fun b hb => ?_)) (fun _ h => h) (fun _ h => h)).tr (Fr.ofI.imp (fun b hb => ?_)) (fun _ h => h) (fun _ h => h), (x + 1) % 15, Nat.mod_lt _ (by decide), ?_, ?_, gIs, fun i hi => ?_⟩
  · unfold PaC; omega
  · unfold PaC; omega
  · unfold PaC; omega
  · rw [gIk (by decide), gIs]
  · rw [psh_len _ _ h3]; split <;> omega
  · rw [bC_fr (p := fun b => b = 29) Fr.ofI (by omega) (by omega), bC_fr (p := fun b => b = 29) Fr.ofI (by omega) (by omega), psh_get _ _ h3 i hi]
    have hl := psh_len (bC w 27) u h3
    by_cases hi0 : i = 0
    · subst hi0
      rw [if_pos rfl, show ((x + 1) % 15 + 14 - 0) % 15 = x by omega, a3]
    · rw [if_neg hi0]
      have hi15 : i < 15 := by rw [hl] at hi; split at hi <;> omega
      have hiu : i - 1 < u.length := by rw [hl] at hi; split at hi <;> omega
      have e : ((x + 1) % 15 + 14 - i) % 15 = (x + 14 - (i - 1)) % 15 := by omega
      have hne : (x + 14 - (i - 1)) % 15 ≠ x := by omega
      rw [e, bC_fr a2 (by omega) (by omega)]
      exact h5 (i - 1) hiu
theorem PsC_fr {q : Nat → Prop} {w w2 : Wd} {u : Us} (h : PsC w u) (f : Fr q w w2) (hq : ∀ b, q b → ¬ PaC b) : PsC w2 u := by
  obtain ⟨x, h1, h2, h3, h4, h5⟩ := h
  have k29 : ∀ k, gI w2 29 k = gI w 29 k := (f 29 (fun hb => hq 29 hb (by unfold PaC; omega))).1
  refine ⟨x, h1, by rw [k29]; exact h2, h3, by rw [k29]; exact h4, fun i hi => ?_⟩
  have hm : (x + 14 - i) % 15 < 15 := Nat.mod_lt _ (by decide)
  rw [bC_fr f (fun hb => hq _ hb (by unfold PaC; omega)) (fun hb => hq _ hb (by unfold PaC; omega))]
  exact h5 i hi
theorem PsM_fr {q : Nat → Nat → Prop} {w w2 : Wd} {u : Us} (h : PsM w u) (f : Fm q w w2) (hq : ∀ a k, q a k → ¬ (a = 103 ∨ (a = 88 ∧ k = 26))) : PsM w2 u := by
  obtain ⟨h1, h2, h3⟩ := h
  refine ⟨h1, by rw [(f 88 26 (fun hb => hq _ _ hb (by omega))).1]; exact h2, fun i hi k hk => ?_⟩
  rw [(f 103 _ (fun hb => hq _ _ hb (by omega))).1]; exact h3 i hi k hk
def undA (u : Us) : Int32 := match u with | [] => -1 | _ :: t => nI t.length
def undB (u : Us) (b : Bl) : Bl := match u with | [] => b | c :: _ => c
def undT (u : Us) : Us := match u with | [] => [] | _ :: t => t
theorem v_X10_undo {F : Nat} (hF : 100 ≤ F) {w : Wd} {u : Us} (h : PsC w u) : ∃ w2, P_X10_undo F w = some (undA u, w2) ∧ Fr (fun b => PaC b ∨ b = 23 ∨ b = 24) w w2 ∧ bC w2 23 = undB u (bC w 23) ∧ PsC w2 (undT u) := by
  have hh := h
  obtain ⟨x, h1, h2, h3, h4, h5⟩ := h
  unfold P_X10_undo P_X4_pop
  rw [h2, lt_v, h4, show nI x + 15 - 1 = nI (x + 14) from by rw [show (15 : Int32) = nI 15 from rfl, nI_add, show nI (x + 15) - 1 = nI (x + 15 - 1) from pk_sub (a := x + 15) (b := 1) (by omega)]; rfl, rem15 (by omega)]
  cases u with
  | nil =>
    rw [if_pos (show nI ([] : Us).length ≤ 0 from Int32.le_refl _), bnd_s]
    exact ⟨w, rfl, Fr.rfl', rfl, hh⟩
  | cons c t =>
    have hm : (x + 14) % 15 < 15 := Nat.mod_lt _ (by decide)
    have ht : t.length < 15 := by have := h3; rw [List.length_cons] at this; omega
    rw [List.length_cons, if_neg (nI_nle (by omega) (by omega)), if_neg (nI_pos (by omega)), if_pos (show nI ((x + 14) % 15) < 15 from nI_lt (a := (x + 14) % 15) (b := 15) hm (by decide)), gd_t (inB_n hm (by omega)), lt_v, nI_clamp (by omega), gd_t (isX1_pa _ hm)]
    obtain ⟨w1, a1, a2, a3⟩ := v_X1_copy hF w 23 (31 + 2 * ((x + 14) % 15)) (by omega) (by omega) (by omega)
    have k29 : ∀ k, gI w1 29 k = gI w 29 k := (a2 29 (by omega)).1
    rw [bnv_r a1, lt_v, lt_v, gIk (show (2 : Nat) ≠ 1 by decide), k29, h4, gIs, List.length_cons, nI_pred, bnd_s]
    refine ⟨_, rfl, ((a2.imp (fun b hb => Or.inr hb)).tr (Fr.ofI.imp (fun b hb => Or.inl (by unfold PaC; omega))) (fun _ h => h) (fun _ h => h)).tr (Fr.ofI.imp (fun b hb => Or.inl (by unfold PaC; omega))) (fun _ h => h) (fun _ h => h), ?_, (x + 14) % 15, hm, ?_, by show t.length ≤ 15; omega, gIs, fun i hi => ?_⟩
    · rw [bC_fr (p := fun b => b = 29) Fr.ofI (by omega) (by omega), bC_fr (p := fun b => b = 29) Fr.ofI (by omega) (by omega), a3]
      have := h5 0 (by rw [List.length_cons]; omega)
      rw [show (x + 14 - 0) % 15 = (x + 14) % 15 from rfl] at this
      exact this
    · rw [gIk (by decide), gIs]
    · rw [bC_fr (p := fun b => b = 29) Fr.ofI (by omega) (by omega), bC_fr (p := fun b => b = 29) Fr.ofI (by omega) (by omega), bC_fr a2 (by omega) (by omega)]
      have hi' : i < t.length := hi
      have := h5 (i + 1) (by rw [List.length_cons]; omega)
      rw [show (x + 14 - (i + 1)) % 15 = ((x + 14) % 15 + 14 - i) % 15 by omega] at this
      exact this
-- the model
def PaM (a k : Nat) : Prop := a = 103 ∨ (a = 88 ∧ (k = 0 ∨ k = 26))
theorem v_X11_putsBy {F : Nat} (hF : 100 ≤ F) {w : Wd} {u : Us} (h : PsM w u) : ∃ w2, P_X11_putsBy F w = some w2 ∧ Fm (fun a _ => a = 103) w w2 ∧ PsM w2 u ∧ ∀ k, k < 16 → gI w2 103 (16 * u.length + k) = gI w 95 k := by
  obtain ⟨h1, h2, h3⟩ := h
  have key : ∀ m j, j + m = 16 → ∀ n, m < n → ∀ v, Fm (fun a _ => a = 103) w v → (∀ q, q < 16 * u.length → gI v 103 q = gI w 103 q) → (∀ k, k < j → gI v 103 (16 * u.length + k) = gI w 95 k) → ∃ v2, L_X11_putsBy_2 F (fun w => some w) n v (nI j) = some v2 ∧ Fm (fun a _ => a = 103) w v2 ∧ (∀ q, q < 16 * u.length → gI v2 103 q = gI w 103 q) ∧ (∀ k, k < 16 → gI v2 103 (16 * u.length + k) = gI w 95 k) := by
    intro m
    induction m with
    | zero =>
      intro j hj n hn v g1 g2 g3
      obtain ⟨n, rfl⟩ : ∃ q, n = q + 1 := ⟨n - 1, by omega⟩
      obtain rfl : j = 16 := by omega
      rw [L_X11_putsBy_2, if_pos (show (16 : Int32) ≤ nI 16 from Int32.le_refl _)]
      exact ⟨v, rfl, g1, g2, g3⟩
    | succ m ih =>
      intro j hj n hn v g1 g2 g3
      obtain ⟨n, rfl⟩ : ∃ q, n = q + 1 := ⟨n - 1, by omega⟩
      have e26 : gI v 88 26 = nI u.length := by rw [(g1 88 26 (by decide)).1]; exact h2
      rw [L_X11_putsBy_2, if_neg (show ¬ (16 : Int32) ≤ nI j from nI_ge (a := j) (b := 16) (by omega) (by decide)), gd_t (inB_n (show j < 16 by omega) (by omega)), e26, show 16 * nI u.length + nI j = nI (16 * u.length + j) from by rw [show (16 : Int32) = nI 16 from rfl, pk_mul, nI_add], gd_t (inB_n (show 16 * u.length + j < 256 by omega) (by omega)), lt_v, lt_v, nI_1, nI_clamp (by omega), nI_clamp (by omega)]
      refine ih (j + 1) (by omega) n (by omega) _ (g1.sI rfl) (fun q hq => by rw [gIk (by omega)]; exact g2 q hq) (fun k hk => ?_)
      by_cases hkj : k = j
      · subst hkj; rw [gIs, (g1 95 k (show ¬ (95 : Nat) = 103 by decide)).1]
      · rw [gIk (by omega)]; exact g3 k (by omega)
  obtain ⟨v2, e1, e2, e3, e4⟩ := key 16 0 rfl F (by omega) w Fm.rfl' (fun _ _ => rfl) (fun k hk => absurd hk (Nat.not_lt_zero _))
  exact ⟨v2, e1, e2, ⟨h1, by rw [(e2 88 26 (by decide)).1]; exact h2, fun i hi k hk => by rw [e3 _ (by omega)]; exact h3 i hi k hk⟩, e4⟩
theorem v_X11_adds {F : Nat} (hF : 1000 ≤ F) {w : Wd} {u : Us} (h : PsM w u) (b : Bl) (hb : ∀ k, k < 16 → gI w 103 (16 * u.length + k) = b k) (x : Int32) : ∃ w2, P_X11_adds F w x = some (x, w2) ∧ Fm PaM w w2 ∧ PsM w2 (psh b u) := by
  obtain ⟨h1, h2, h3⟩ := h
  have hl := psh_len b u h1
  unfold P_X11_adds
  rw [lt_v, h2, nI_1, gIs]
  by_cases c : u.length = 15
  · rw [if_neg (show ¬ nI (u.length + 1) ≤ 15 from nI_ge (a := 15) (b := u.length + 1) (by omega) (by omega))]
    have key : ∀ m j, j + m = 240 → ∀ n, m < n → ∀ v, Fm PaM w v → gI v 88 26 = nI 16 → (∀ q, q < j → gI v 103 q = gI w 103 (q + 16)) → (∀ q, j ≤ q → gI v 103 q = gI w 103 q) → ∃ v2, L_X11_adds_21 F x (fun w  => lt (sI w 88 26 ((gI w 88 26) - 1)) (fun w10 => some (x, w10))) n v (nI j) = some (x, v2) ∧ Fm PaM w v2 ∧ gI v2 88 26 = nI 15 ∧ (∀ q, q < 240 → gI v2 103 q = gI w 103 (q + 16)) := by
      intro m
      induction m with
      | zero =>
        intro j hj n hn v g1 g2 g3 g4
        obtain ⟨n, rfl⟩ : ∃ q, n = q + 1 := ⟨n - 1, by omega⟩
        obtain rfl : j = 240 := by omega
        rw [L_X11_adds_21, if_pos (show (240 : Int32) ≤ nI 240 from Int32.le_refl _), lt_v, g2, nI_pred]
        exact ⟨_, rfl, g1.sI (.inr ⟨rfl, .inr rfl⟩), gIs, fun q hq => by rw [gIa (by decide)]; exact g3 q hq⟩
      | succ m ih =>
        intro j hj n hn v g1 g2 g3 g4
        obtain ⟨n, rfl⟩ : ∃ q, n = q + 1 := ⟨n - 1, by omega⟩
        rw [L_X11_adds_21, if_neg (show ¬ (240 : Int32) ≤ nI j from nI_ge (a := j) (b := 240) (by omega) (by decide)), show nI j + 16 = nI (j + 16) from nI_add j 16, gd_t (inB_n (show j + 16 < 256 by omega) (by omega)), gd_t (inB_n (show j < 256 by omega) (by omega)), lt_v, lt_v, nI_1, nI_clamp (by omega), nI_clamp (by omega)]
        refine ih (j + 1) (by omega) n (by omega) _ (g1.sI (.inl rfl)) (by rw [gIa (by decide)]; exact g2) (fun q hq => ?_) (fun q hq => by rw [gIk (by omega)]; exact g4 q (by omega))
        by_cases hqj : q = j
        · subst hqj; rw [gIs]; exact g4 (q + 16) (by omega)
        · rw [gIk hqj]; exact g3 q (by omega)
    obtain ⟨v2, e1, e2, e3, e4⟩ := key 240 0 rfl F (by omega) (sI w 88 26 (nI (u.length + 1))) (Fm.rfl'.sI (.inr ⟨rfl, .inr rfl⟩)) (by rw [gIs, c]) (fun q hq => absurd hq (Nat.not_lt_zero _)) (fun q _ => gIa (by decide))
    rw [if_pos c] at hl
    refine ⟨v2, e1, e2, by omega, by rw [e3, hl], fun i hi k hk => ?_⟩
    rw [hl] at hi ⊢
    rw [e4 _ (by omega), psh_get b u h1 i (by omega)]
    by_cases hi0 : i = 0
    · subst hi0
      rw [if_pos rfl, ← hb k hk, c, show 16 * (15 - 1 - 0) + k + 16 = 16 * 15 + k by omega]
    · rw [if_neg hi0, ← h3 (i - 1) (by omega) k hk, c, show 16 * (15 - 1 - i) + k + 16 = 16 * (15 - 1 - (i - 1)) + k by omega]
  · rw [if_pos (show nI (u.length + 1) ≤ 15 from nI_le (a := u.length + 1) (b := 15) (by omega) (by decide))]
    rw [if_neg c] at hl
    refine ⟨_, rfl, Fm.rfl'.sI (.inr ⟨rfl, .inr rfl⟩), by omega, by rw [gIs, hl], fun i hi k hk => ?_⟩
    rw [hl] at hi ⊢
    rw [gIa (by decide), psh_get b u h1 i (by omega)]
    by_cases hi0 : i = 0
    · subst hi0
      rw [if_pos rfl, ← hb k hk, show u.length + 1 - 1 - 0 = u.length by omega]
    · rw [if_neg hi0, ← h3 (i - 1) (by omega) k hk, show u.length + 1 - 1 - i = u.length - 1 - (i - 1) by omega]
theorem v_X11_undo {F : Nat} (hF : 100 ≤ F) {w : Wd} {u : Us} (h : PsM w u) : ∃ w2, P_X11_undo F w = some (undA u, w2) ∧ Fm (fun a k => a = 95 ∨ (a = 88 ∧ (k = 0 ∨ k = 26))) w w2 ∧ rM w2 95 = (fun k => if k < 16 then undB u (rM w 95) k else 0) ∧ PsM w2 (undT u) := by
  obtain ⟨h1, h2, h3⟩ := h
  have f0 : Fm (fun a k => a = 95 ∨ (a = 88 ∧ (k = 0 ∨ k = 26))) w (sI w 88 0 0) := Fm.rfl'.sI (.inr ⟨rfl, .inl rfl⟩)
  have e26 : gI (sI w 88 0 0) 88 26 = nI u.length := by rw [gIk (by decide)]; exact h2
  unfold P_X11_undo
  rw [lt_v, e26]
  cases u with
  | nil =>
    rw [if_pos (show nI ([] : Us).length = 0 from rfl)]
    refine ⟨_, rfl, f0, ?_, by decide, e26, fun i hi => absurd hi (Nat.not_lt_zero _)⟩
    funext k
    show (if k < 16 then gI (sI w 88 0 0) 95 k else 0) = if k < 16 then (if k < 16 then gI w 95 k else 0) else 0
    by_cases hk : k < 16
    · rw [if_pos hk, if_pos hk, if_pos hk, gIa (by decide)]
    · rw [if_neg hk, if_neg hk]
  | cons c t =>
    rw [List.length_cons] at h1 h3
    rw [List.length_cons, if_neg (nI_ne0 (by omega) (by omega)), lt_v, nI_pred]
    have key : ∀ m j, j + m = 16 → ∀ n, m < n → ∀ v, Fm (fun a k => a = 95 ∨ (a = 88 ∧ (k = 0 ∨ k = 26))) w v → gI v 88 26 = nI t.length → (∀ k, k < j → gI v 95 k = c k) → ∃ v2, L_X11_undo_26 F (fun w  => some (gI w 88 26, w)) n v (nI j) = some (nI t.length, v2) ∧ Fm (fun a k => a = 95 ∨ (a = 88 ∧ (k = 0 ∨ k = 26))) w v2 ∧ gI v2 88 26 = nI t.length ∧ (∀ k, k < 16 → gI v2 95 k = c k) := by
      intro m
      induction m with
      | zero =>
        intro j hj n hn v g1 g2 g3
        obtain ⟨n, rfl⟩ : ∃ q, n = q + 1 := ⟨n - 1, by omega⟩
        obtain rfl : j = 16 := by omega
        rw [L_X11_undo_26, if_pos (show (16 : Int32) ≤ nI 16 from Int32.le_refl _), g2]
        exact ⟨v, rfl, g1, g2, g3⟩
      | succ m ih =>
        intro j hj n hn v g1 g2 g3
        obtain ⟨n, rfl⟩ : ∃ q, n = q + 1 := ⟨n - 1, by omega⟩
        rw [L_X11_undo_26, if_neg (show ¬ (16 : Int32) ≤ nI j from nI_ge (a := j) (b := 16) (by omega) (by decide)), g2, show 16 * nI t.length + nI j = nI (16 * t.length + j) from by rw [show (16 : Int32) = nI 16 from rfl, pk_mul, nI_add], gd_t (inB_n (show 16 * t.length + j < 256 by omega) (by omega)), gd_t (inB_n (show j < 16 by omega) (by omega)), lt_v, lt_v, nI_1, nI_clamp (by omega), nI_clamp (by omega)]
        refine ih (j + 1) (by omega) n (by omega) _ (g1.sI (.inl rfl)) (by rw [gIa (by decide)]; exact g2) (fun k hk => ?_)
        by_cases hkj : k = j
        · subst hkj
          rw [gIs, (g1 103 _ (by omega)).1]
          have := h3 0 (by omega) k (by omega)
          rw [show t.length + 1 - 1 - 0 = t.length by omega] at this
          exact this
        · rw [gIk hkj]; exact g3 k (by omega)
    obtain ⟨v2, e1, e2, e3, e4⟩ := key 16 0 rfl F (by omega) (sI (sI w 88 0 0) 88 26 (nI t.length)) (f0.sI (.inr ⟨rfl, .inr rfl⟩)) gIs (fun k hk => absurd hk (Nat.not_lt_zero _))
    refine ⟨v2, e1, e2, ?_, by show t.length ≤ 15; omega, e3, fun i hi k hk => ?_⟩
    · funext k
      show (if k < 16 then gI v2 95 k else 0) = if k < 16 then c k else 0
      by_cases hk : k < 16
      · rw [if_pos hk, if_pos hk, e4 k hk]
      · rw [if_neg hk, if_neg hk]
    rw [(e2 103 _ (by omega)).1]
    have := h3 (i + 1) (by have : i < t.length := hi; omega) k hk
    rw [show t.length + 1 - 1 - (i + 1) = t.length - 1 - i by omega] at this
    exact this
