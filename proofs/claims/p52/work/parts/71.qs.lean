-- ===== what is undone =====
def b00 : Bl := fun _ => 0
abbrev Us : Type := List Bl
def psh (b : Bl) (u : Us) : Us := (b :: u).take 15
def pshU (a : Int32) (b : Bl) (u : Us) : Us := if a < 0 then u else psh b u
theorem psh_len (b : Bl) (u : Us) (h : u.length ≤ 15) : (psh b u).length = if u.length = 15 then 15 else u.length + 1 := by
  unfold psh
  rw [List.length_take, List.length_cons]
  split <;> omega
theorem psh_get (b : Bl) (u : Us) (h : u.length ≤ 15) (i : Nat) (hi : i < (psh b u).length) : (psh b u).getD i b00 = if i = 0 then b else u.getD (i - 1) b00 := by
  have hl := psh_len b u h
  unfold psh at hi ⊢
  rw [List.length_take] at hi
  rw [List.getD_eq_getElem?_getD, List.getElem?_take, if_pos (by omega)]
  cases i with
  | zero => rfl
  | succ i => rw [if_neg (by omega)]; rfl
def PsC (w : Wd) (u : Us) : Prop := ∃ x : Nat, x < 15 ∧ gI w 29 1 = nI x ∧ u.length ≤ 15 ∧ gI w 29 2 = nI u.length ∧ ∀ i, i < u.length → bC w (31 + 2 * ((x + 14 - i) % 15)) = u.getD i b00
theorem isX1_pa : ∀ i : Nat, i < 15 → isX1 (31 + 2 * i) = true := by decide
theorem rem15 {a : Nat} (h : a < 100) : iremI (nI a) 15 = nI (a % 15) := pk_rem (a := a) (d := 15) (by omega) (by decide) (by decide)
def PaC (b : Nat) : Prop := 29 ≤ b ∧ b ≤ 60
theorem v_X4_push {F : Nat} (hF : 100 ≤ F) {w : Wd} {u : Us} (h : PsC w u) (a : Nat) (ha : a = 27) : ∃ w2, P_X4_push F w a = some w2 ∧ Fr PaC w w2 ∧ PsC w2 (psh (bC w a) u) := by
  subst ha
  obtain ⟨x, h1, h2, h3, h4, h5⟩ := h
  unfold P_X4_push
  rw [h2, if_neg (nI_pos (by omega)), if_neg (show ¬ (15 : Int32) ≤ nI x from nI_ge (a := x) (b := 15) h1 (by decide)), gd_t (inB_n h1 (by omega)), lt_v, nI_clamp (by omega), gd_t (isX1_pa x h1)]
  obtain ⟨w1, a1, a2, a3⟩ := v_X1_copy hF w (31 + 2 * x) 27 (by omega) (by omega) (by omega)
  have k29 : ∀ k, gI w1 29 k = gI w 29 k := (a2 29 (by omega)).1
  rw [bnv_r a1, lt_v, k29, h2, nI_1, rem15 (by omega), lt_v, gIk (show (2 : Nat) ≠ 1 by decide), k29, h4, nI_1]
  have hmin : minI 15 (nI (u.length + 1)) = nI (psh (bC w 27) u).length := by
    rw [psh_len _ _ h3]
    unfold minI
    by_cases c : u.length = 15
    · rw [if_pos c, c]; rfl
    · rw [if_neg c]
      by_cases c2 : nI (u.length + 1) < 15
      · rw [if_pos c2]
      · rw [if_neg c2]
        have : ¬ u.length + 1 < 15 := fun q => c2 (nI_lt (a := u.length + 1) (b := 15) q (by decide))
        rw [show u.length + 1 = 15 by omega]; rfl
  rw [hmin]
  refine ⟨_, rfl, ((a2.imp (fun b hb => ?_)).tr (Fr.ofI.imp (fun b hb => ?_)) (fun _ h => h) (fun _ h => h)).tr (Fr.ofI.imp (fun b hb => ?_)) (fun _ h => h) (fun _ h => h), (x + 1) % 15, Nat.mod_lt _ (by decide), ?_, ?_, gIs, fun i hi => ?_⟩
  · unfold PaC; omega
  · unfold PaC; omega
  · unfold PaC; omega
  · rw [gIk (by decide), gIs]
  · rw [psh_len _ _ h3]; split <;> omega
  · rw [bC_fr (p := fun b => b = 29) Fr.ofI (by omega) (by omega), bC_fr (p := fun b => b = 29) Fr.ofI (by omega) (by omega), psh_get _ _ h3 i hi]
    have hl := psh_len (bC w 27) u h3
    by_cases hi0 : i = 0
    · subst hi0
      rw [if_pos rfl, show ((x + 1) % 15 + 14 - 0) % 15 = x by omega, a3]
    · rw [if_neg hi0]
      have hi15 : i < 15 := by rw [hl] at hi; split at hi <;> omega
      have hiu : i - 1 < u.length := by rw [hl] at hi; split at hi <;> omega
      have e : ((x + 1) % 15 + 14 - i) % 15 = (x + 14 - (i - 1)) % 15 := by omega
      have hne : (x + 14 - (i - 1)) % 15 ≠ x := by omega
      rw [e, bC_fr a2 (by omega) (by omega)]
      exact h5 (i - 1) hiu
theorem PsC_fr {q : Nat → Prop} {w w2 : Wd} {u : Us} (h : PsC w u) (f : Fr q w w2) (hq : ∀ b, q b → ¬ PaC b) : PsC w2 u := by
  obtain ⟨x, h1, h2, h3, h4, h5⟩ := h
  have k29 : ∀ k, gI w2 29 k = gI w 29 k := (f 29 (fun hb => hq 29 hb (by unfold PaC; omega))).1
  refine ⟨x, h1, by rw [k29]; exact h2, h3, by rw [k29]; exact h4, fun i hi => ?_⟩
  have hm : (x + 14 - i) % 15 < 15 := Nat.mod_lt _ (by decide)
  rw [bC_fr f (fun hb => hq _ hb (by unfold PaC; omega)) (fun hb => hq _ hb (by unfold PaC; omega))]
  exact h5 i hi
def undA (u : Us) : Int32 := match u with | [] => -1 | _ :: t => nI t.length
def undB (u : Us) (b : Bl) : Bl := match u with | [] => b | c :: _ => c
def undT (u : Us) : Us := match u with | [] => [] | _ :: t => t
theorem v_X10_undo {F : Nat} (hF : 100 ≤ F) {w : Wd} {u : Us} (h : PsC w u) : ∃ w2, P_X10_undo F w = some (undA u, w2) ∧ Fr (fun b => PaC b ∨ b = 23 ∨ b = 24) w w2 ∧ bC w2 23 = undB u (bC w 23) ∧ PsC w2 (undT u) := by
  have hh := h
  obtain ⟨x, h1, h2, h3, h4, h5⟩ := h
  unfold P_X10_undo P_X4_pop
  rw [h2, lt_v, h4, show nI x + 15 - 1 = nI (x + 14) from by rw [show (15 : Int32) = nI 15 from rfl, nI_add, show nI (x + 15) - 1 = nI (x + 15 - 1) from pk_sub (a := x + 15) (b := 1) (by omega)]; rfl, rem15 (by omega)]
  cases u with
  | nil =>
    rw [if_pos (show nI ([] : Us).length ≤ 0 from Int32.le_refl _), bnd_s]
    exact ⟨w, rfl, Fr.rfl', rfl, hh⟩
  | cons c t =>
    have hm : (x + 14) % 15 < 15 := Nat.mod_lt _ (by decide)
    have ht : t.length < 15 := by have := h3; rw [List.length_cons] at this; omega
    rw [List.length_cons, if_neg (nI_nle (by omega) (by omega)), if_neg (nI_pos (by omega)), if_pos (show nI ((x + 14) % 15) < 15 from nI_lt (a := (x + 14) % 15) (b := 15) hm (by decide)), gd_t (inB_n hm (by omega)), lt_v, nI_clamp (by omega), gd_t (isX1_pa _ hm)]
    obtain ⟨w1, a1, a2, a3⟩ := v_X1_copy hF w 23 (31 + 2 * ((x + 14) % 15)) (by omega) (by omega) (by omega)
    have k29 : ∀ k, gI w1 29 k = gI w 29 k := (a2 29 (by omega)).1
    rw [bnv_r a1, lt_v, lt_v, gIk (show (2 : Nat) ≠ 1 by decide), k29, h4, gIs, List.length_cons, nI_pred, bnd_s]
    refine ⟨_, rfl, ((a2.imp (fun b hb => Or.inr hb)).tr (Fr.ofI.imp (fun b hb => Or.inl (by unfold PaC; omega))) (fun _ h => h) (fun _ h => h)).tr (Fr.ofI.imp (fun b hb => Or.inl (by unfold PaC; omega))) (fun _ h => h) (fun _ h => h), ?_, (x + 14) % 15, hm, ?_, by show t.length ≤ 15; omega, gIs, fun i hi => ?_⟩
    · rw [bC_fr (p := fun b => b = 29) Fr.ofI (by omega) (by omega), bC_fr (p := fun b => b = 29) Fr.ofI (by omega) (by omega), a3]
      have := h5 0 (by rw [List.length_cons]; omega)
      rw [show (x + 14 - 0) % 15 = (x + 14) % 15 from rfl] at this
      exact this
    · rw [gIk (by decide), gIs]
    · rw [bC_fr (p := fun b => b = 29) Fr.ofI (by omega) (by omega), bC_fr (p := fun b => b = 29) Fr.ofI (by omega) (by omega), bC_fr a2 (by omega) (by omega)]
      have hi' : i < t.length := hi
      have := h5 (i + 1) (by rw [List.length_cons]; omega)
      rw [show (x + 14 - (i + 1)) % 15 = ((x + 14) % 15 + 14 - i) % 15 by omega] at this
      exact this
