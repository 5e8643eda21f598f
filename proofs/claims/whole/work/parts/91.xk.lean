-- ===== town, the model =====
theorem v_X11_town {F : Nat} (hF : 100 ≤ F) {w : Wd} {T : Tw} {b : Bl} {r p N C : Nat} (g : MG w T b r p N) (hC : C + 1 < 2 ^ 31) {u : Us} (hu : PsM w u) {kp : Kb} (hk : KpM w kp C) {t : Nat → Int32} {n : Nat} (hx : TxM w t n) : ∃ w2, P_X11_town F w = some (qEn t n p, w2) ∧ Fm Er w w2 ∧ MT w2 (addT T 2 p (lnE t n p) (fsP t n) (scP t n)) r (p + lnE t n p) N ∧ rM w2 95 = b ∧ PsM w2 (if lnE t n p = 0 then u else []) ∧ KpM w2 (if lnE t n p = 0 then kp else kpN) (C + 1) ∧ TxM w2 t 0 := by
  have hn := hx.2.1
  have hr := g.1.2.1
  have f0 : Fm (fun a k => a = 88 ∧ k = 0) w (sI w 88 0 0) := Fm.rfl'.sI ⟨rfl, rfl⟩
  have hx0 : TxM (sI w 88 0 0) t n := ⟨by rw [gIk (by decide)]; exact hx.1, hn, fun k hk => by rw [gIa (by decide)]; exact hx.2.2 k hk⟩
  have hl8 := ln_8 (t := t) hn hr
  unfold P_X11_town
  obtain ⟨w1, a1, a2, a3, a4⟩ := v_X11_readsPairs hF hx0 hr
  rw [lt_v, gIk (by decide), g.2.1.2.1, bnd_r a1]
  have fN : Fm (fun a k => a = 88 ∧ k = 0 ∨ Rq a k) w w1 := (f0.imp (fun _ _ h => .inl h)).tr (a2.imp (fun _ _ h => .inr h))
  have fE : Fm Er w w1 := fN.imp (fun a k h => by rcases h with h | h; exact .inr (.inl ⟨h.1, .inl h.2⟩); exact .inl h)
  have g1 : MG w1 T b r p N := MG_fr g fN (fun a k h => by unfold Rq Bg Rp at h; exact ⟨by unfold Mp; omega, by omega⟩)
  have u1 : PsM w1 u := PsM_fr hu fN (fun a k h => by unfold Rq Bg Rp at h; omega)
  have k1 : KpM w1 kp C := KpM_fr hk fN (fun a k h => by unfold Rq Bg Rp at h; omega)
  have nx : ∀ v : Wd, gI v 88 14 = 0 → TxM v t 0 := fun v hv => ⟨hv, by omega, fun k hk => absurd hk (Nat.not_lt_zero _)⟩
  obtain ⟨h1, h2, h3, h4, h5, h6, h7, h8, h9⟩ := g1.2.1
  have a2x : ∀ (f g : Nat → Int32) ls x k, ¬ (x = 2 ∨ x = 3) → ¬ (x = 4 ∧ k = 1) → addT T 2 p ls f g x k = T x k := fun f g ls x k h1 h2 => by unfold addT; rw [if_neg (by omega), if_neg (by omega), if_neg (by omega)]
  by_cases c : wtG t n p < 0
  · have el : lnE t n p = 0 := by unfold lnE; rw [if_pos c]
    have eq : qEn t n p = wtG t n p := by unfold qEn; rw [if_pos c]
    rw [if_neg (Int32.not_le.mpr c), el, eq, if_pos rfl, if_pos rfl]
    obtain ⟨ch, c1, c2, c3⟩ := k1
    refine ⟨w1, rfl, fE, ⟨h1, h2, by rw [a2x _ _ _ _ _ (by omega) (by omega)]; exact h3, by rw [a2x _ _ _ _ _ (by omega) (by omega)]; exact h4, by rw [a2x _ _ _ _ _ (by omega) (by omega)]; exact h5, fun k hk => by rw [a2x _ _ _ _ _ (by omega) (by omega), a2x _ _ _ _ _ (by omega) (by omega)]; exact h6 k hk, fun k hk => ?_, h8, fun k hk => by rw [a2x _ _ _ _ _ (by omega) (by omega)]; exact h9 k hk⟩, g1.2.2.1, u1, ⟨ch, by omega, c2, c3⟩, nx w1 a3⟩
    have := h7 k (by omega)
    unfold addT
    rw [if_pos (show (2 : Nat) = 2 from rfl), if_neg (show ¬ (3 : Nat) = 2 from by decide), if_pos (show (3 : Nat) = 2 + 1 from rfl), if_neg (show ¬ (p ≤ k ∧ k < p + 0) from by omega), if_neg (show ¬ (p ≤ k ∧ k < p + 0) from by omega)]; exact this
  · have el : lnE t n p = (wS t n p).2.2 := by unfold lnE; rw [if_neg c]
    have eq : qEn t n p = nI (wS t n p).2.2 := by unfold qEn; rw [if_neg c]
    obtain ⟨e19, en⟩ := a4 c
    rw [if_pos (Int32.not_lt.mp c), eq, el]
    rw [el] at hl8
    generalize (wS t n p).2.2 = ls at *
    have key : ∀ m j, j + m = ls → ∀ f, m < f → ∀ v, Fm (fun a k => (a = 88 ∧ k = 4) ∨ a = 92 ∨ a = 93) w1 v → gI v 88 4 = nI (p + j) → (∀ k, gI v 92 k = if p ≤ k ∧ k < p + j then fsP t n (k - p) else gI w1 92 k) → (∀ k, gI v 93 k = if p ≤ k ∧ k < p + j then scP t n (k - p) else gI w1 93 k) → rM v 95 = b → ∃ w2, L_X11_town_22 F (fun w  => bnd (P_X11_came F w ) (fun x18 w17 => some (x18, w17))) f v (nI j) = some (nI ls, w2) ∧ Fm Er w w2 ∧ MT w2 (addT T 2 p ls (fsP t n) (scP t n)) r (p + ls) N ∧ rM w2 95 = b ∧ PsM w2 (if ls = 0 then u else []) ∧ KpM w2 (if ls = 0 then kp else kpN) (C + 1) ∧ TxM w2 t 0 := by
      intro m
      induction m with
      | zero =>
        intro j hj f hf v q1 q2 q3 q4 q5
        obtain ⟨f, rfl⟩ : ∃ z, f = z + 1 := ⟨f - 1, by omega⟩
        obtain rfl : j = ls := by omega
        have v19 : gI v 88 19 = nI j := by rw [(q1 88 19 (by omega)).1]; exact e19
        obtain ⟨w2, b1, b2, b3, b4⟩ := v_X11_came F (by omega) hC v19 (PsM_fr u1 q1 (fun a k h => by omega)) (KpM_fr k1 q1 (fun a k h => by omega))
        rw [L_X11_town_22, v19, if_pos (Int32.le_refl _), bnd_r b1]
        have z : ∀ a k, ¬ (a = 88 ∧ (k = 5 ∨ k = 26)) → gI w2 a k = gI v a k := fun a k h => (b2 a k h).1
        have y : ∀ a k, ¬ ((a = 88 ∧ k = 4) ∨ a = 92 ∨ a = 93) → gI v a k = gI w1 a k := fun a k h => (q1 a k h).1
        refine ⟨w2, rfl, (fE.tr (q1.imp (fun a k h => by unfold Er; omega))).tr (b2.imp (fun a k h => by unfold Er; omega)), ⟨by rw [z _ _ (by omega), y _ _ (by omega)]; exact h1, by rw [z _ _ (by omega)]; exact q2, by rw [z _ _ (by omega), y _ _ (by omega), a2x _ _ _ _ _ (by omega) (by omega)]; exact h3, by rw [z _ _ (by omega), y _ _ (by omega), a2x _ _ _ _ _ (by omega) (by omega)]; exact h4, by rw [z _ _ (by omega), y _ _ (by omega), a2x _ _ _ _ _ (by omega) (by omega)]; exact h5, fun k hk => by rw [z _ _ (by omega), z _ _ (by omega), y _ _ (by omega), y _ _ (by omega), a2x _ _ _ _ _ (by omega) (by omega), a2x _ _ _ _ _ (by omega) (by omega)]; exact h6 k hk, fun k hk => ?_, by rw [z _ _ (by omega), y _ _ (by omega)]; exact h8, fun k hk => by rw [z _ _ (by omega), y _ _ (by omega), a2x _ _ _ _ _ (by omega) (by omega)]; exact h9 k hk⟩, by rw [rM_fr b2 (fun k _ h => by omega)]; exact q5, b3, b4, nx w2 (by rw [z _ _ (by omega), y _ _ (by omega)]; exact a3)⟩
        rw [z _ _ (by omega), z _ _ (by omega), q3, q4]
        unfold addT
        rw [if_pos (show (2 : Nat) = 2 from rfl), if_neg (show ¬ (3 : Nat) = 2 from by decide), if_pos (show (3 : Nat) = 2 + 1 from rfl)]
        by_cases d : p ≤ k ∧ k < p + j
        · rw [if_pos d, if_pos d, if_pos d, if_pos d]; exact ⟨rfl, rfl⟩
        · rw [if_neg d, if_neg d, if_neg d, if_neg d]; exact h7 k (by omega)
      | succ m ih =>
        intro j hj f hf v q1 q2 q3 q4 q5
        obtain ⟨f, rfl⟩ : ∃ z, f = z + 1 := ⟨f - 1, by omega⟩
        have v19 : gI v 88 19 = nI ls := by rw [(q1 88 19 (by omega)).1]; exact e19
        have v98 : ∀ i, gI v 98 i = gI w1 98 i := fun i => (q1 98 i (by omega)).1
        obtain ⟨n1, n2⟩ := en j (by omega)
        have e2 : (2 : Int32) * nI j = nI (2 * j) := pk_mul 2 j
        have i8 : inB (nI (p + j)) 8 = true := inB_n (by omega) (by omega)
        rw [L_X11_town_22, v19, if_neg (nI_ge (by omega) (by omega)), e2, q2, nI_1, gd_t (inB_n (by omega) (by omega)), gd_t i8, nI_clamp (by omega), nI_clamp (by omega), nI_clamp (by omega), v98, n1, lt_v, gIa (by decide), q2, gIa (by decide), v98, n2, gd_t (inB_n (by omega) (by omega)), gd_t i8, nI_clamp (by omega), lt_v, gIa (by decide), gIa (by decide), q2, nI_1, lt_v, lt_v, nI_1]
        refine ih (j + 1) (by omega) f (by omega) _ (((q1.sI (.inr (.inl rfl))).sI (.inr (.inr rfl))).sI (.inl ⟨rfl, rfl⟩)) gIs (fun k => ?_) (fun k => ?_) ?_
        · rw [gIa (by decide), gIa (by decide)]
          by_cases d : k = p + j
          · rw [d, gIs, if_pos (by omega), show p + j - p = j from by omega]
          · rw [gIk d, q3 k]
            by_cases d2 : p ≤ k ∧ k < p + j
            · rw [if_pos d2, if_pos (by omega)]
            · rw [if_neg d2, if_neg (by omega)]
        · rw [gIa (by decide)]
          by_cases d : k = p + j
          · rw [d, gIs, if_pos (by omega), show p + j - p = j from by omega]
          · rw [gIk d, gIa (by decide), q4 k]
            by_cases d2 : p ≤ k ∧ k < p + j
            · rw [if_pos d2, if_pos (by omega)]
            · rw [if_neg d2, if_neg (by omega)]
        · rw [← q5]
          exact rM_ext (fun k hk => by rw [gIa (by decide), gIa (by decide), gIa (by decide)])
    exact key ls 0 (by omega) F (by omega) w1 Fm.rfl' h2 (fun k => by rw [if_neg (by omega)]) (fun k => by rw [if_neg (by omega)]) g1.2.2.1
