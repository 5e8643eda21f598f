-- ===== rule, law: the model =====
section RM
variable {F : Nat} {w : Wd} {t : Nat → Int32} {n : Nat} {T : Tw} {b : Bl} {r p N : Nat}
def LcF (a k : Nat) : Prop := a = 99 ∨ (a = 88 ∧ k = 22)
theorem v_X11_laysCode (hF : 100 ≤ F) (w : Wd) {a : Nat} (ha : a = 100 ∨ a = 110) {N : Nat} (hN : N ≤ 80) : ∃ w2, P_X11_laysCode F w a (nI N) = some w2 ∧ Fm LcF w w2 ∧ gI w2 88 22 = nI N ∧ ∀ k, k < N → gI w2 99 k = gI w a k := by
  have hl : alen a = 80 := by rcases ha with rfl | rfl <;> rfl
  unfold P_X11_laysCode
  rw [lt_v]
  have key : ∀ m j, j + m = N → ∀ f, m < f → ∀ u, Fm LcF w u → gI u 88 22 = nI N → (∀ k, k < j → gI u 99 k = gI w a k) → ∃ w2, L_X11_laysCode_7 F a (nI N) (fun w  => some w) f u (nI j) = some w2 ∧ Fm LcF w w2 ∧ gI w2 88 22 = nI N ∧ ∀ k, k < N → gI w2 99 k = gI w a k := by
    intro m
    induction m with
    | zero =>
      intro j hj f hf u g1 g2 g3
      obtain ⟨f, rfl⟩ : ∃ q, f = q + 1 := ⟨f - 1, by omega⟩
      obtain rfl : j = N := by omega
      rw [L_X11_laysCode_7, if_pos (Int32.le_refl _)]
      exact ⟨u, rfl, g1, g2, g3⟩
    | succ m ih =>
      intro j hj f hf u g1 g2 g3
      obtain ⟨f, rfl⟩ : ∃ q, f = q + 1 := ⟨f - 1, by omega⟩
      have ea : gI u a j = gI w a j := (g1 a j (by unfold LcF; rcases ha with rfl | rfl <;> omega)).1
      rw [L_X11_laysCode_7, if_neg (nI_ge (by omega) (by omega)), hl, gd_t (inB_n (show j < 80 by omega) (by omega)), gd_t (inB_n (show j < 80 by omega) (by omega)), nI_clamp (by omega), lt_v, lt_v, nI_1]
      refine ih (j + 1) (by omega) f (by omega) _ (g1.sI (.inl rfl)) (by rw [gIa (by decide)]; exact g2) (fun k hk => ?_)
      by_cases e : k = j
      · rw [e, gIs, ea]
      · rw [gIk e]; exact g3 k (by omega)
  exact key N 0 (by omega) F (by omega) (sI w 88 22 (nI N)) (Fm.rfl'.sI (.inr ⟨rfl, rfl⟩)) gIs (fun k hk => absurd hk (Nat.not_lt_zero _))
/-- another rule in the tower -/
theorem MT_new {w2 : Wd} {T' : Tw} {M : List Int32} (h : MT w T r p N) (f : Fm LcF w w2) (e22 : gI w2 88 22 = nI M.length) (e99 : ∀ k, k < M.length → gI w2 99 k = cdL M k) (nr : NewR T T' M) : MT w2 T' r p M.length := by
  obtain ⟨h1, h2, h3, h4, h5, h6, h7, h8, h9⟩ := h
  obtain ⟨n1, n2, n3⟩ := nr
  have g : ∀ a k, ¬ (a = 99 ∨ (a = 88 ∧ k = 22)) → gI w2 a k = gI w a k := fun a k ha => (f a k ha).1
  refine ⟨by rw [g _ _ (by omega)]; exact h1, by rw [g _ _ (by omega)]; exact h2, ?_, ?_, ?_, fun k hk => ?_, fun k hk => ?_, e22, fun k hk => by rw [e99 k hk, n3 k hk]⟩
  · rw [g _ _ (by omega), n1 4 (by omega)]; exact h3
  · rw [g _ _ (by omega), n1 4 (by omega)]; exact h4
  · rw [g _ _ (by omega), n1 4 (by omega)]; exact h5
  · rw [g _ _ (by omega), g _ _ (by omega), n1 0 (by omega), n1 1 (by omega)]; exact h6 k hk
  · rw [g _ _ (by omega), g _ _ (by omega), n1 2 (by omega), n1 3 (by omega)]; exact h7 k hk
theorem okTw_new {T' : Tw} {M : List Int32} (ok : okTw T r p N) (nr : NewR T T' M) (hR : okR (T' 5) M.length) : okTw T' r p M.length := by
  obtain ⟨o1, o2, o3, o4, o5, o6, o7, o8, o9, o10, o11⟩ := ok
  obtain ⟨n1, n2, n3⟩ := nr
  have e0 := n1 0 (by omega)
  have e1 := n1 1 (by omega)
  have e2 := n1 2 (by omega)
  have e3 := n1 3 (by omega)
  have e4 := n1 4 (by omega)
  exact ⟨o1, o2, by rw [e4]; exact o3, by rw [e4]; exact o4, n2, hR, fun k hk => by rw [e0, e1]; exact o7 k hk, fun k hk => by rw [e2, e3]; exact o8 k hk, fun k => by rw [e1]; exact o9 k, fun k => by rw [e3]; exact o10 k, by rw [e4]; exact o11⟩
/-- what reading a rule may change on the model's side, the rule laid -/
def RuF (a k : Nat) : Prop := (a = 88 ∧ (k = 0 ∨ (14 ≤ k ∧ k ≤ 17) ∨ k = 22 ∨ k = 23)) ∨ a = 99 ∨ a = 100
theorem Rv_Mp {a k : Nat} (h : Rv a k) : ¬ Mp a k ∧ a ≠ 95 := by unfold Rv Bg Rr at h; unfold Mp; omega
theorem Rv_Ru {a k : Nat} (h : Rv a k) : RuF a k := by unfold Rv Bg Rr at h; unfold RuF; omega
theorem TxM_t0 {t : Nat → Int32} {n : Nat} (hx : TxM w t n) : TxM (sI w 88 0 0) t n := ⟨by rw [gIk (by decide)]; exact hx.1, hx.2.1, fun k hk => by rw [gIa (by decide)]; exact hx.2.2 k hk⟩
theorem v_X11_rule (hF : 100 ≤ F) (h : MT w T r p N) (hx : TxM w t n) : ∃ w2, P_X11_rule F w = some (wtU t n, w2) ∧ Fm RuF w w2 ∧ TxM w2 t 0 ∧ (wU t n).2.1 ≤ min n 40 ∧ (wtU t n = 0 → ∀ T', NewR T T' (wU t n).2.2 → MT w2 T' r p (wU t n).2.2.length) ∧ (¬ wtU t n = 0 → MT w2 T r p N) := by
  have f0 : Fm (fun a k => a = 88 ∧ k = 0) w (sI w 88 0 0) := Fm.rfl'.sI ⟨rfl, rfl⟩
  have h0 : MT (sI w 88 0 0) T r p N := MT_fr f0 (fun a k h => by unfold Mp; omega) h
  obtain ⟨w2, a1, a2, a3, a4, a5, a6⟩ := v_X11_readsRule hF (TxM_t0 hx)
  have h2 : MT w2 T r p N := MT_fr a2 (fun _ _ h => (Rv_Mp h).1) h0
  have fA : Fm RuF w w2 := (f0.imp (fun a k h => .inl ⟨h.1, .inl h.2⟩)).tr (a2.imp (fun _ _ h => Rv_Ru h))
  unfold P_X11_rule
  rw [lt_v, bnd_r a1]
  by_cases c : wtU t n = 0
  · obtain ⟨w3, b1, b2, b3, b4⟩ := v_X11_laysCode hF w2 (a := 100) (.inl rfl) (N := (wU t n).2.2.length) (by omega)
    rw [if_pos c, a4.1, bnv_r b1]
    refine ⟨w3, rfl, fA.tr (b2.imp (fun a k h => by unfold LcF at h; unfold RuF; omega)), ⟨by rw [(b2 88 14 (by unfold LcF; omega)).1]; exact a3, by omega, fun k hk => absurd hk (Nat.not_lt_zero _)⟩, a5, fun _ T' nr => MT_new h2 b2 b3 (fun k hk => by rw [b4 k hk]; exact LsR_cd a4.2 k hk) nr, fun z => absurd c z⟩
  · rw [if_neg c]
    exact ⟨w2, rfl, fA, ⟨a3, by omega, fun k hk => absurd hk (Nat.not_lt_zero _)⟩, a5, fun z => absurd z c, fun _ => h2⟩
def LmF (a k : Nat) : Prop := QM a k ∨ RuF a k ∨ a = 110
theorem v_X11_law (hF : 2000 ≤ F) (g : MG w T b r p N) (hx : TxM w t n) : ∃ v w2, P_X11_law F w = some (v, w2) ∧ Fm LmF w w2 ∧ TxM w2 t 0 ∧ (wU t n).2.1 ≤ min n 40 ∧ MT w2 T r p N ∧ rM w2 95 = b ∧ (wtU t n = 0 → ∀ T', NewR T T' (wU t n).2.2 → okR (T' 5) (wU t n).2.2.length → v = (qLaw T T' b).1 ∧ tqM (qLaw T T' b).2 w w2) ∧ (¬ wtU t n = 0 → v = wtU t n + 1 - 10000 ∧ tqM none w w2) := by
  have hn := hx.2.1
  have f0 : Fm (fun a k => a = 88 ∧ k = 0) w (sI w 88 0 0) := Fm.rfl'.sI ⟨rfl, rfl⟩
  obtain ⟨w2, a1, a2, a3, a4, a5, a6⟩ := v_X11_readsRule (F := F) (by omega) (TxM_t0 hx)
  have fR : Fm RuF w w2 := (f0.imp (fun a k h => .inl ⟨h.1, .inl h.2⟩)).tr (a2.imp (fun _ _ h => Rv_Ru h))
  have g2 : MG w2 T b r p N := MG_fr (MG_fr g f0 (fun a k h => by unfold Mp; omega)) a2 (fun _ _ h => Rv_Mp h)
  have fA : Fm LmF w w2 := fR.imp (fun _ _ h => .inr (.inl h))
  have x2 : TxM w2 t 0 := ⟨a3, by omega, fun k hk => absurd hk (Nat.not_lt_zero _)⟩
  unfold P_X11_law
  rw [lt_v, bnd_r a1]
  by_cases c : wtU t n = 0
  · rw [c, if_pos (show (0 : Int32) ≤ 0 from by decide)]
    obtain ⟨w5, b1, b2⟩ := ms_stopsIn hF g2 (w1 := w2) Fm.rfl'
    have b2 := b2.1
    have g5 := MG_QN g2 b2
    have hN40 : N ≤ 40 := g.1.2.2.2.2.2.1.1
    rw [bnd_r b1, lt_v, g5.2.1.2.2.2.2.2.2.2.1]
    -- the own rule put by
    have key : ∀ (kk : Wd → Option (Int32 × Wd)) m j, j + m = N → ∀ f, m < f → ∀ u, Fm (fun a _ => a = 110) w5 u → (∀ k, k < j → gI u 110 k = gI w5 99 k) → ∃ w3, L_X11_law_35 F (nI (fst0 T (b 13) 999 1 b).1) (nI N) kk f u (nI j) = kk w3 ∧ Fm (fun a _ => a = 110) w5 w3 ∧ ∀ k, k < N → gI w3 110 k = gI w5 99 k := by
      intro kk m
      induction m with
      | zero =>
        intro j hj f hf u q1 q2
        obtain ⟨f, rfl⟩ : ∃ q, f = q + 1 := ⟨f - 1, by omega⟩
        obtain rfl : j = N := by omega
        have e22 : gI u 88 22 = nI j := by rw [(q1 88 22 (by omega)).1]; exact g5.2.1.2.2.2.2.2.2.2.1
        rw [L_X11_law_35, e22, if_pos (Int32.le_refl _)]
        exact ⟨u, rfl, q1, q2⟩
      | succ m ih =>
        intro j hj f hf u q1 q2
        obtain ⟨f, rfl⟩ : ∃ q, f = q + 1 := ⟨f - 1, by omega⟩
        have e22 : gI u 88 22 = nI N := by rw [(q1 88 22 (by omega)).1]; exact g5.2.1.2.2.2.2.2.2.2.1
        rw [L_X11_law_35, e22, if_neg (nI_ge (by omega) (by omega)), gd_t (inB_n (show j < 80 by omega) (by omega)), gd_t (inB_n (show j < 80 by omega) (by omega)), nI_clamp (by omega), lt_v, lt_v, nI_1]
        refine ih (j + 1) (by omega) f (by omega) _ (q1.sI rfl) (fun k hk => ?_)
        by_cases e : k = j
        · rw [e, gIs, (q1 99 j (by omega)).1]
        · rw [gIk e]; exact q2 k (by omega)
    obtain ⟨w6, c1, c2, c3⟩ := key (fun w  => bnv (P_X11_laysCode F w 100 (gI w 88 23)) (fun w16 => bnd (P_X11_stopsIn F w16 ) (fun x18 w17 => bnv (P_X11_laysCode F w17 110 (nI N)) (fun w19 => lt (sI w19 88 1 0) (fun w20 => bnv (P_X11_enters F w20 (Int32.toInt64 x18)) (fun w21 => bnv (P_X11_enters F w21 (Int32.toInt64 (nI (fst0 T (b 13) 999 1 b).1))) (fun w22 => some (x18 - (nI (fst0 T (b 13) 999 1 b).1), w22)))))))) N 0 (by omega) F (by omega) w5 Fm.rfl' (fun k hk => absurd hk (Nat.not_lt_zero _))
    have g6 : MG w6 T b r p N := MG_fr g5 c2 (fun a k h => by unfold Mp; omega)
    have co6 : gI w6 88 23 = nI (wU t n).2.2.length ∧ LsR w6 100 (wU t n).2.2 := ⟨by rw [(c2 88 23 (by omega)).1, (b2 88 23 (by unfold QN; omega)).1]; exact a4.1, LsR_eq a4.2 (fun k _ => by rw [(c2 100 k (by omega)).1, (b2 100 k (by unfold QN; omega)).1])⟩
    obtain ⟨w7, d1, d2, d3, d4⟩ := v_X11_laysCode (F := F) (by omega) w6 (a := 100) (.inl rfl) (N := (wU t n).2.2.length) (by omega)
    have f26 : Fm LmF w w7 := ((fA.tr (b2.imp (fun _ _ h => .inl (.inl h)))).tr (c2.imp (fun _ _ h => .inr (.inr h)))).tr (d2.imp (fun a k h => .inr (.inl (by unfold LcF at h; unfold RuF; omega))))
    -- without what the other rule is, nothing is known of the minutes by it; take the one that lies there
    have hS := okSw_R (wU t n).2.2 (wU_ok (by
      rcases rf_wt t n hn a5 with ⟨-, -, r3, -, -⟩ | ⟨-, -, r3⟩
      · exact r3
      · rw [c] at r3; exact absurd r3 (by decide))) a6
    have nr0 : NewR T (fun c k => if c = 5 then cdL (wU t n).2.2 k else if c = 6 then nI (wU t n).2.2.length else T c k) (wU t n).2.2 := ⟨fun c hc => by funext k; show (if c = 5 then _ else if c = 6 then _ else _) = _; rw [if_neg (by omega), if_neg (by omega)], rfl, fun k _ => rfl⟩
    have main : ∀ T', NewR T T' (wU t n).2.2 → okR (T' 5) (wU t n).2.2.length → ∃ w2, L_X11_law_35 F (nI (fst0 T (b 13) 999 1 b).1) (nI N) (fun w  => bnv (P_X11_laysCode F w 100 (gI w 88 23)) (fun w16 => bnd (P_X11_stopsIn F w16 ) (fun x18 w17 => bnv (P_X11_laysCode F w17 110 (nI N)) (fun w19 => lt (sI w19 88 1 0) (fun w20 => bnv (P_X11_enters F w20 (Int32.toInt64 x18)) (fun w21 => bnv (P_X11_enters F w21 (Int32.toInt64 (nI (fst0 T (b 13) 999 1 b).1))) (fun w22 => some (x18 - (nI (fst0 T (b 13) 999 1 b).1), w22)))))))) F w5 (nI 0) = some ((qLaw T T' b).1, w2) ∧ Fm LmF w w2 ∧ TxM w2 t 0 ∧ MT w2 T r p N ∧ rM w2 95 = b ∧ tqM (qLaw T T' b).2 w w2 := by
      intro T' nr hR
      have g7 : MG w7 T' b r p (wU t n).2.2.length := ⟨okTw_new g.1 nr hR, MT_new g6.2.1 d2 d3 (fun k hk => by rw [d4 k hk]; exact LsR_cd co6.2 k hk) nr, by rw [rM_fr d2 (fun k _ => by unfold LcF; omega)]; exact g6.2.2.1, g.2.2.2⟩
      obtain ⟨w8, e1, e2⟩ := ms_stopsIn hF g7 (w1 := w7) Fm.rfl'
      have e2 := e2.1
      obtain ⟨w9, k1, k2, k3, k4⟩ := v_X11_laysCode (F := F) (by omega) w8 (a := 110) (.inr rfl) (N := N) (by omega)
      have g9 : MT w9 T r p N := by
        have h8 := MT_fr e2 (fun _ _ h => QN_Mp h) g7.2.1
        obtain ⟨h1, h2, h3, h4, h5, h6, h7, -, -⟩ := h8
        have gg : ∀ a k, ¬ (a = 99 ∨ (a = 88 ∧ k = 22)) → gI w9 a k = gI w8 a k := fun a k ha => (k2 a k ha).1
        have n1 := nr.1
        refine ⟨by rw [gg _ _ (by omega)]; exact h1, by rw [gg _ _ (by omega)]; exact h2, ?_, ?_, ?_, fun k hk => ?_, fun k hk => ?_, k3, fun k hk => ?_⟩
        · rw [gg _ _ (by omega), ← n1 4 (by omega)]; exact h3
        · rw [gg _ _ (by omega), ← n1 4 (by omega)]; exact h4
        · rw [gg _ _ (by omega), ← n1 4 (by omega)]; exact h5
        · rw [gg _ _ (by omega), gg _ _ (by omega), ← n1 0 (by omega), ← n1 1 (by omega)]; exact h6 k hk
        · rw [gg _ _ (by omega), gg _ _ (by omega), ← n1 2 (by omega), ← n1 3 (by omega)]; exact h7 k hk
        · rw [k4 k hk, (e2 110 k (by unfold QN; omega)).1, (d2 110 k (by unfold LcF; omega)).1, c3 k hk]
          exact g5.2.1.2.2.2.2.2.2.2.2 k hk
      have r9 : rM w9 95 = b := by
        rw [rM_fr k2 (fun k _ => by unfold LcF; omega), rM_fr e2 (fun k _ h => QN95 h)]; exact g7.2.2.1
      obtain ⟨w10, l1, l2, l3⟩ := v_X11_enters F (tlM_0 (w := w9)) (show 0 < 24 by decide) (Int32.toInt64 (nI (fst0 T' (b 13) 999 1 b).1))
      obtain ⟨w11, m1, m2, m3⟩ := v_X11_enters F l3 (show 1 < 24 by decide) (Int32.toInt64 (nI (fst0 T (b 13) 999 1 b).1))
      have fT : Fm Tm w9 w11 := ((Fm.rfl'.sI (show Tm 88 1 from .inl ⟨rfl, rfl⟩)).tr l2).tr m2
      have tMp : ∀ {a k}, Tm a k → ¬ Mp a k := fun {a k} h => by unfold Tm at h; unfold Mp; omega
      have x7 : TxM w7 t 0 := ⟨by rw [(d2 88 14 (by unfold LcF; omega)).1, (c2 88 14 (by omega)).1, (b2 88 14 (by unfold QN; omega)).1]; exact a3, by omega, fun k hk => absurd hk (Nat.not_lt_zero _)⟩
      refine ⟨w11, ?_, ((f26.tr (e2.imp (fun _ _ h => .inl (.inl h)))).tr (k2.imp (fun a k h => .inr (.inl (by unfold LcF at h; unfold RuF; omega))))).tr (fT.imp (fun _ _ h => .inl (.inr h))), ⟨by rw [(fT 88 14 (by unfold Tm; omega)).1, (k2 88 14 (by unfold LcF; omega)).1, (e2 88 14 (by unfold QN; omega)).1]; exact x7.1, by omega, fun k hk => absurd hk (Nat.not_lt_zero _)⟩, MT_fr fT (fun _ _ h => tMp h) g9, by rw [rM_fr fT (fun k _ h => by unfold Tm at h; omega)]; exact r9, m3⟩
      refine c1.trans ?_
      rw [co6.1, bnv_r d1, bnd_r e1, bnv_r k1, lt_v, bnv_r l1, bnv_r m1]
      rfl
    obtain ⟨w12, m1, m2, m3, m4, m5, -⟩ := main _ nr0 (okR_ext (fun k _ => rfl) hS)
    refine ⟨_, w12, m1, m2, m3, a5, m4, m5, fun _ T' q1 q2 => ?_, fun z => absurd rfl z⟩
    obtain ⟨w13, o1, -, -, -, -, o6⟩ := main T' q1 q2
    have e := o1.symm.trans m1
    have e1 := Option.some.inj e
    have ev := congrArg Prod.fst e1
    have ew : w13 = w12 := congrArg Prod.snd e1
    exact ⟨ev.symm, by rw [← ew]; exact o6⟩
  · have hneg : ¬ (0 : Int32) ≤ wtU t n := by
      rcases rf_wt t n hn a5 with ⟨-, r2, -, -, -⟩ | ⟨-, -, r3⟩
      · exact absurd r2 c
      · exact Int32.not_le.mpr r3
    rw [if_neg hneg]
    exact ⟨_, w2, rfl, fA, x2, a5, g2.2.1, g2.2.2.1, fun z => absurd z c, fun _ => ⟨rfl, by rw [(fR 88 1 (by unfold RuF; omega)).1], fun k => (fR 89 k (by unfold RuF; omega)).2.1⟩⟩
end RM
