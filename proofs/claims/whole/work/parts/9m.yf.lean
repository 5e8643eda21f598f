-- ===== each change: both answer alike and go on alike =====
/-- no reference is moved -/
def RRf (w0 : Wd) (o : Option (Int32 × Wd)) : Prop := ∀ r, o = some r → r.2.2.2 = w0.2.2
theorem RRf_s {w0 w : Wd} {v : Int32} (h : w.2.2 = w0.2.2) : RRf w0 (some (v, w)) := fun r e => by rw [← Option.some.inj e]; exact h
theorem RRf_i {w0 : Wd} {c : Prop} [Decidable c] {x y : Option (Int32 × Wd)} (h1 : RRf w0 x) (h2 : RRf w0 y) : RRf w0 (if c then x else y) := by
  by_cases h : c
  · rw [if_pos h]; exact h1
  · rw [if_neg h]; exact h2
theorem set_R (F : Nat) (w : Wd) (x v : Int32) : RRf w (P_X10_set F w x v) := by
  have h70 : ∀ y, RRf w (K_X10_set_70 F x v w y) := fun y => by
    unfold K_X10_set_70
    exact RRf_i (RRf_i (RRf_s rfl) (RRf_i (RRf_s rfl) (RRf_s rfl))) (RRf_s rfl)
  have h36 : ∀ y, RRf w (K_X10_set_36 F x v w y) := fun y => by
    unfold K_X10_set_36
    exact RRf_i (RRf_i (h70 y) (RRf_i (h70 y) (RRf_s rfl))) (h70 y)
  unfold P_X10_set
  exact RRf_i (RRf_i (h36 _) (RRf_i (h36 _) (RRf_s rfl))) (h36 _)
theorem K27_R (F a : Nat) (w : Wd) (x : Int32) : RRf w (K_X10_enrol_27 F a w x) := by
  unfold K_X10_enrol_27
  exact RRf_i (RRf_s rfl) (RRf_s rfl)
theorem keep_R {F : Nat} (hF : 100 ≤ F) {w w2 : Wd} {x v : Int32} (e : P_X10_keep F w x = some (v, w2)) : gR w2 0 4 = gR w 0 4 := by
  unfold P_X10_keep at e
  by_cases h1 : x < 0
  · rw [if_pos h1] at e
    have ew : _ = w2 := congrArg Prod.snd (Option.some.inj e)
    rw [← ew]
  rw [if_neg h1] at e
  by_cases h2 : x < 3
  · rw [if_pos h2] at e
    obtain ⟨i, hi, rfl⟩ := lt3 h1 h2
    obtain ⟨w1, a1, a2, a3⟩ := v_X1_copy (F := F) hF w (82 + 2 * i) 23 (by omega) (by omega) (by omega)
    rw [nI_clamp (by omega), gd_t (inB_n hi (by omega)), lt_v, gd_t (isX1_kept i hi), bnv_r a1, lt_v] at e
    have ew : _ = w2 := congrArg Prod.snd (Option.some.inj e)
    rw [← ew]
    exact (a2 0 (by omega)).2.2 4
  · rw [if_neg h2] at e
    have ew : _ = w2 := congrArg Prod.snd (Option.some.inj e)
    rw [← ew]
theorem enrol_R {F : Nat} (hF : 100 ≤ F) {w w2 : Wd} {a th : Nat} (ha : a = 6 ∨ a = 9) (h8 : th ≤ 8) (ht : gI w a 2 = nI th) {t : Nat → Int32} {n : Nat} (hx : TxC w t n) {v : Int32} (e : P_X10_enrol F w a = some (v, w2)) : gR w2 0 4 = gR w 0 4 := by
  have hn := hx.2.1
  have hws := wS_ok (t := t) (th := th) hn h8
  unfold P_X10_enrol at e
  rw [bnd_r (v_X5_faultIn hF hx ht h8)] at e
  rcases cq_ft n (wS t n th).2.1 (wS t n th).1 hn hws.1 with ⟨c1, c2, c3, c4, c5⟩ | ⟨c1, c2, c3⟩
  · have hq := hws.2 c4 c5 c3
    rw [if_pos c1] at e
    obtain ⟨w1, a1, a2⟩ := v_X5_admit hF ha hx ht ⟨hq.1, hq.2.1⟩ hq.2.2
    rw [bnd_r a1] at e
    have := K27_R F a w1 _ _ e
    have e2 : gR w2 0 4 = gR w1 0 4 := by unfold gR; rw [this]
    rw [e2]
    exact (a2.1 0 (by omega)).2.2 4
  · rw [if_neg c1] at e
    have := K27_R F a w _ _ e
    unfold gR; rw [this]
theorem sgb_b (v : Int32) (j : Nat) : ∃ c : Nat, c < 256 ∧ sgb v j = nI c := by
  obtain ⟨c, h1, h2⟩ := pk_andE (iushrI v (nI (24 - 8 * j))) (m := 255) 8 (by decide)
  exact ⟨c, h1, h2⟩
theorem BlI_r {b : Bl} {r r2 p p2 K : Nat} (h : BlI b r p K) (hr : r ≤ r2) (hp : p ≤ p2) : BlI b r2 p2 K := by
  obtain ⟨⟨z1, z2⟩, ⟨s, s1, s2, s3⟩, a3, ⟨d, d1, d2⟩, a5⟩ := h
  exact ⟨⟨fun k h1 h2 => z1 k (by omega) h2, z2⟩, ⟨s, Nat.lt_of_lt_of_le s1 (Nat.pow_le_pow_right (by decide) hr), s2, s3⟩, a3, ⟨d, Nat.lt_of_lt_of_le d1 (Nat.pow_le_pow_right (by decide) hp), d2⟩, a5⟩
theorem psh_all {r p K : Nat} {b : Bl} {u : Us} (hb : BlI b r p K) (hu : ∀ x, x ∈ u → BlI x r p K) (a : Int32) : ∀ x, x ∈ pshU a b u → BlI x r p K := by
  intro x hx
  unfold pshU at hx
  by_cases c : a < 0
  · rw [if_pos c] at hx; exact hu x hx
  · rw [if_neg c] at hx
    rcases List.mem_cons.mp (List.mem_of_mem_take hx) with rfl | h
    · exact hb
    · exact hu x h
theorem bC_hi {w : Wd} {a k : Nat} (h : ¬ k < 16) : bC w a k = 0 := by unfold bC; rw [if_neg (by omega), if_neg h]
theorem Tl_q {w w2 : Wd} {L : List Int64} {o : Option (List Int64)} (h : Tl w L) (tq : tqC o w w2) : Tl w2 (o.getD L) := by
  cases o with
  | none => exact ⟨by rw [tq.1]; exact h.1, fun k hk => by rw [tq.2]; exact h.2 k hk⟩
  | some L' => exact tq
theorem TlM_q {w w2 : Wd} {L : List Int64} {o : Option (List Int64)} (h : TlM w L) (tq : tqM o w w2) : TlM w2 (o.getD L) := by
  cases o with
  | none => exact ⟨by rw [tq.1]; exact h.1, fun k hk => by rw [tq.2]; exact h.2 k hk⟩
  | some L' => exact tq
theorem getD_le {L : List Int64} {o : Option (List Int64)} (h : L.length ≤ 6) (ho : ∀ L', o = some L' → L'.length ≤ 6) : (o.getD L).length ≤ 6 := by
  cases o with
  | none => exact h
  | some L' => exact ho L' rfl
section CH
variable {F : Nat} {w : Wd} {q : Nat}
theorem t2_sign (hF : 10000 ≤ F) (h : Inv w q) (hq : q ≤ 600) (x : Int32) : Two (P_X10_sign F w x) (fun w1 => P_X11_sign F w1 x) q := by
  obtain ⟨r, p, N, u, t, n, L, c, f, kp, hC, hM, hP⟩ := Inv_e h
  have h2 : 2000 ≤ F := by omega
  have KK : 7200 * q ≤ 7200 * (q + 1) := by omega
  obtain ⟨c1, c2, -, -, c5, c6, c7, c8, c9, c10, c11⟩ := id hC
  obtain ⟨p1, p2, p3, p4, p5, p6, p7⟩ := id hP
  obtain ⟨w1, e1, fr, x1⟩ := v_X10_sign (F := F) (by omega) c8 x
  have tw := tw_fr c1 c2 ((fr 0 (fun z => by omega)).2.2 4) fr (fun b z => by omega)
  obtain ⟨m1, m2, m3, m4, m5, m6, m7⟩ := id (MI_fr hM fr (fun b z => .inl (by omega)))
  have g1 : MG w1 (tC w 5) (bC w 23) r p N := ⟨p1, m1, m2, p2.1⟩
  obtain ⟨w2, e2, fm, x2⟩ := v_X11_sign (F := F) (by omega) m4 x
  refine two_fin e1 e2 ⟨tw.1, tw.2.1, tw.2.2, bC_fr fr (fun z => by omega) (fun z => by omega), by rw [(fr 6 (fun z => by omega)).1]; exact c5, by rw [(fr 9 (fun z => by omega)).1]; exact c6, PsC_fr c7 fr (fun b z => by unfold PaC; omega), x1, Tl_fr c9 fr (fun b z => by omega), NtC_fr c10 fr (fun b z => by omega), KpC_fr c11 fr (fun b z => by omega)⟩ fm (fun a k z => by unfold Tx at z; omega) ⟨MT_fr fm (fun a k z => by unfold Tx at z; unfold Mp; omega) m1, by rw [rM_fr fm (fun k _ z => by unfold Tx at z; omega)]; exact m2, PsM_fr m3 fm (fun a k z => by unfold Tx at z; omega), x2, TlM_fr m5 fm (fun a k z => by unfold Tx at z; omega), NtM_fr m6 fm (fun a k z => by unfold Tx at z; omega), KpM_mono (KpM_fr m7 fm (fun a k z => by unfold Tx at z; omega)) (Nat.le_succ _)⟩ ⟨p1, BlI_K p2 KK, fun x z => BlI_K (p3 x z) KK, fun i x z => BlI_K (p4 i x z) KK, p5, p6, ?_⟩
  intro k hk
  by_cases c0 : n ≤ 76
  · rw [if_pos c0] at hk ⊢
    unfold sgT
    by_cases c1 : n ≤ k ∧ k < n + 4
    · rw [if_pos c1]; exact sgb_b x _
    · rw [if_neg c1]; exact p7 k (by omega)
  · rw [if_neg c0] at hk ⊢
    exact p7 k hk
theorem t2_end (hF : 10000 ≤ F) (h : Inv w q) (hq : q ≤ 600) (x : Int32) : Two (P_X10_end F w x) (fun w1 => P_X11_end F w1 x) q := by
  obtain ⟨r, p, N, u, t, n, L, c, f, kp, hC, hM, hP⟩ := Inv_e h
  have h2 : 2000 ≤ F := by omega
  have KK : 7200 * q ≤ 7200 * (q + 1) := by omega
  obtain ⟨c1, c2, -, -, c5, c6, c7, c8, c9, c10, c11⟩ := id hC
  obtain ⟨p1, p2, p3, p4, p5, p6, p7⟩ := id hP
  obtain ⟨w1, e1, fr, x1⟩ := v_X10_end F c8 x
  have tw := tw_fr c1 c2 ((fr 0 (fun z => by omega)).2.2 4) fr (fun b z => by omega)
  obtain ⟨m1, m2, m3, m4, m5, m6, m7⟩ := id (MI_fr hM fr (fun b z => .inl (by omega)))
  have g1 : MG w1 (tC w 5) (bC w 23) r p N := ⟨p1, m1, m2, p2.1⟩
  obtain ⟨w2, e2, fm, x2⟩ := v_X11_end F m4 x
  refine two_fin e1 e2 ⟨tw.1, tw.2.1, tw.2.2, bC_fr fr (fun z => by omega) (fun z => by omega), by rw [(fr 6 (fun z => by omega)).1]; exact c5, by rw [(fr 9 (fun z => by omega)).1]; exact c6, PsC_fr c7 fr (fun b z => by unfold PaC; omega), x1, Tl_fr c9 fr (fun b z => by omega), NtC_fr c10 fr (fun b z => by omega), KpC_fr c11 fr (fun b z => by omega)⟩ fm (fun a k z => by unfold Tx at z; omega) ⟨MT_fr fm (fun a k z => by unfold Tx at z; unfold Mp; omega) m1, by rw [rM_fr fm (fun k _ z => by unfold Tx at z; omega)]; exact m2, PsM_fr m3 fm (fun a k z => by unfold Tx at z; omega), x2, TlM_fr m5 fm (fun a k z => by unfold Tx at z; omega), NtM_fr m6 fm (fun a k z => by unfold Tx at z; omega), KpM_mono (KpM_fr m7 fm (fun a k z => by unfold Tx at z; omega)) (Nat.le_succ _)⟩ ⟨p1, BlI_K p2 KK, fun x z => BlI_K (p3 x z) KK, fun i x z => BlI_K (p4 i x z) KK, p5, p6, fun k hk => p7 k (Nat.lt_of_lt_of_le hk (qEnd_le c8.2.1 x))⟩
theorem t2_ringers (hF : 10000 ≤ F) (h : Inv w q) (hq : q ≤ 600) : Two (P_X10_ringers F w) (fun w1 => P_X11_ringers F w1) q := by
  obtain ⟨r, p, N, u, t, n, L, c, f, kp, hC, hM, hP⟩ := Inv_e h
  have h2 : 2000 ≤ F := by omega
  have KK : 7200 * q ≤ 7200 * (q + 1) := by omega
  obtain ⟨c1, c2, -, -, c5, c6, c7, c8, c9, c10, c11⟩ := id hC
  obtain ⟨p1, p2, p3, p4, p5, p6, p7⟩ := id hP
  have l8 := ln_8 (t := t) c8.2.1 p1.1
  obtain ⟨w1, e0, fr, tw1, tw2, r1, u1, k1, x1⟩ := v_X10_enrol (F := F) (by omega) (a := 6) (.inl rfl) c1 p1.1 c5 c7 c11 c8
  have e1 : P_X10_ringers F w = some (qEn t n r, w1) := by
    unfold P_X10_ringers
    rw [bnd_r e0]
  have eR := enrol_R (F := F) (by omega) (.inl rfl) p1.1 c5 c8 e0
  have fR5 : gR w1 5 2 = gR w 5 2 := (fr 5 (fun z => by unfold EnF at z; omega)).2.2 2
  have sp : spC w1 := ⟨by rw [eR]; exact c2.1, by rw [eR, fR5]; exact c2.2⟩
  obtain ⟨m1, m2, m3, m4, m5, m6, m7⟩ := id (MI_fr hM fr (fun b z => .inl (by unfold EnF at z; omega)))
  have g1 : MG w1 (tC w 5) (bC w 23) r p N := ⟨p1, m1, m2, p2.1⟩
  obtain ⟨w2, e2, fm, t2, b2, u2, k2, x2⟩ := v_X11_ringers (F := F) (by omega) g1 (by omega) m3 m7 m4
  refine two_fin e1 e2 ⟨tw1, sp, tw2, bC_fr fr (fun z => by unfold EnF at z; omega) (fun z => by unfold EnF at z; omega), r1, by rw [(fr 9 (fun z => by unfold EnF at z; omega)).1]; exact c6, u1, x1, Tl_fr c9 fr (fun b z => by unfold EnF at z; omega), NtC_fr c10 fr (fun b z => by unfold EnF at z; omega), k1⟩ fm (fun a k z => by unfold Er Rq Bg Rp at z; omega) ⟨t2, b2, u2, x2, TlM_fr m5 fm (fun a k z => by unfold Er Rq Bg Rp at z; omega), NtM_fr m6 fm (fun a k z => by unfold Er Rq Bg Rp at z; omega), k2⟩ ⟨okTw_addR p1 l8 (fun i => val_9 t n _), BlI_K (BlI_r p2 (Nat.le_add_right _ _) (Nat.le_refl _)) KK, ?_, ?_, p5, p6, fun k hk => absurd hk (Nat.not_lt_zero _)⟩
  · by_cases l0 : lnE t n r = 0
    · rw [if_pos l0]; exact fun x z => BlI_K (BlI_r (p3 x z) (Nat.le_add_right _ _) (Nat.le_refl _)) KK
    · rw [if_neg l0]; exact fun x z => absurd z (by simp)
  · by_cases l0 : lnE t n r = 0
    · rw [if_pos l0]; exact fun i x z => BlI_K (BlI_r (p4 i x z) (Nat.le_add_right _ _) (Nat.le_refl _)) KK
    · rw [if_neg l0]; exact fun i x z => absurd z (by unfold kpN; simp)
theorem t2_town (hF : 10000 ≤ F) (h : Inv w q) (hq : q ≤ 600) : Two (P_X10_town F w) (fun w1 => P_X11_town F w1) q := by
  obtain ⟨r, p, N, u, t, n, L, c, f, kp, hC, hM, hP⟩ := Inv_e h
  have h2 : 2000 ≤ F := by omega
  have KK : 7200 * q ≤ 7200 * (q + 1) := by omega
  obtain ⟨c1, c2, -, -, c5, c6, c7, c8, c9, c10, c11⟩ := id hC
  obtain ⟨p1, p2, p3, p4, p5, p6, p7⟩ := id hP
  have l8 := ln_8 (t := t) c8.2.1 p1.2.1
  obtain ⟨w1, e0, fr, tw1, tw2, r1, u1, k1, x1⟩ := v_X10_enrol (F := F) (by omega) (a := 9) (.inr rfl) c1 p1.2.1 c6 c7 c11 c8
  have e1 : P_X10_town F w = some (qEn t n p, w1) := by
    unfold P_X10_town
    rw [bnd_r e0]
  have eR := enrol_R (F := F) (by omega) (.inr rfl) p1.2.1 c6 c8 e0
  have fR5 : gR w1 5 2 = gR w 5 2 := (fr 5 (fun z => by unfold EnF at z; omega)).2.2 2
  have sp : spC w1 := ⟨by rw [eR]; exact c2.1, by rw [eR, fR5]; exact c2.2⟩
  obtain ⟨m1, m2, m3, m4, m5, m6, m7⟩ := id (MI_fr hM fr (fun b z => .inl (by unfold EnF at z; omega)))
  have g1 : MG w1 (tC w 5) (bC w 23) r p N := ⟨p1, m1, m2, p2.1⟩
  obtain ⟨w2, e2, fm, t2, b2, u2, k2, x2⟩ := v_X11_town (F := F) (by omega) g1 (by omega) m3 m7 m4
  refine two_fin e1 e2 ⟨tw1, sp, tw2, bC_fr fr (fun z => by unfold EnF at z; omega) (fun z => by unfold EnF at z; omega), by rw [(fr 6 (fun z => by unfold EnF at z; omega)).1]; exact c5, r1, u1, x1, Tl_fr c9 fr (fun b z => by unfold EnF at z; omega), NtC_fr c10 fr (fun b z => by unfold EnF at z; omega), k1⟩ fm (fun a k z => by unfold Er Rq Bg Rp at z; omega) ⟨t2, b2, u2, x2, TlM_fr m5 fm (fun a k z => by unfold Er Rq Bg Rp at z; omega), NtM_fr m6 fm (fun a k z => by unfold Er Rq Bg Rp at z; omega), k2⟩ ⟨okTw_addP p1 l8 (fun i => val_9 t n _), BlI_K (BlI_r p2 (Nat.le_refl _) (Nat.le_add_right _ _)) KK, ?_, ?_, p5, p6, fun k hk => absurd hk (Nat.not_lt_zero _)⟩
  · by_cases l0 : lnE t n p = 0
    · rw [if_pos l0]; exact fun x z => BlI_K (BlI_r (p3 x z) (Nat.le_refl _) (Nat.le_add_right _ _)) KK
    · rw [if_neg l0]; exact fun x z => absurd z (by simp)
  · by_cases l0 : lnE t n p = 0
    · rw [if_pos l0]; exact fun i x z => BlI_K (BlI_r (p4 i x z) (Nat.le_refl _) (Nat.le_add_right _ _)) KK
    · rw [if_neg l0]; exact fun i x z => absurd z (by unfold kpN; simp)
theorem t2_set (hF : 10000 ≤ F) (h : Inv w q) (hq : q ≤ 600) (x v : Int32) : Two (P_X10_set F w x v) (fun w1 => P_X11_set F w1 x v) q := by
  obtain ⟨r, p, N, u, t, n, L, c, f, kp, hC, hM, hP⟩ := Inv_e h
  have h2 : 2000 ≤ F := by omega
  have KK : 7200 * q ≤ 7200 * (q + 1) := by omega
  obtain ⟨c1, c2, -, -, c5, c6, c7, c8, c9, c10, c11⟩ := id hC
  obtain ⟨p1, p2, p3, p4, p5, p6, p7⟩ := id hP
  obtain ⟨w1, e1, fr, s1, s2⟩ := v_X10_set F c1 x v
  have eR := set_R F w x v _ e1
  have sp : spC w1 := by
    unfold spC gR
    have eR : w1.2.2 = w.2.2 := eR
    rw [eR]; exact c2
  obtain ⟨m1, m2, m3, m4, m5, m6, m7⟩ := id (MI_fr hM fr (fun b z => .inl (by omega)))
  have g1 : MG w1 (tC w 5) (bC w 23) r p N := ⟨p1, m1, m2, p2.1⟩
  obtain ⟨w2, e2, fm, t2⟩ := v_X11_set F m1 x v
  refine two_fin e1 e2 ⟨s1, sp, s2, bC_fr fr (fun z => by omega) (fun z => by omega), by rw [(fr 6 (fun z => by omega)).1]; exact c5, by rw [(fr 9 (fun z => by omega)).1]; exact c6, PsC_fr c7 fr (fun b z => by unfold PaC; omega), TxC_fr c8 fr (fun z => by omega) (fun z => by omega), Tl_fr c9 fr (fun b z => by omega), NtC_fr c10 fr (fun b z => by omega), KpC_fr c11 fr (fun b z => by omega)⟩ fm (fun a k z => by unfold Fx at z; omega) ⟨t2, by rw [rM_fr fm (fun k _ z => by unfold Fx at z; omega)]; exact m2, PsM_fr m3 fm (fun a k z => by unfold Fx at z; omega), TxM_fr m4 fm (fun a k z => by unfold Fx at z; omega), TlM_fr m5 fm (fun a k z => by unfold Fx at z; omega), NtM_fr m6 fm (fun a k z => by unfold Fx at z; omega), KpM_mono (KpM_fr m7 fm (fun a k z => by unfold Fx at z; omega)) (Nat.le_succ _)⟩ ⟨okTw_q p1 x v, BlI_K p2 KK, fun x z => BlI_K (p3 x z) KK, fun i x z => BlI_K (p4 i x z) KK, p5, p6, p7⟩
theorem t2_sheet (hF : 10000 ≤ F) (h : Inv w q) (hq : q ≤ 600) (x y z1 v : Int32) : Two (P_X10_sheet F w x y z1 v) (fun w1 => P_X11_sheet F w1 x y z1 v) q := by
  obtain ⟨r, p, N, u, t, n, L, c, f, kp, hC, hM, hP⟩ := Inv_e h
  have h2 : 2000 ≤ F := by omega
  have KK : 7200 * q ≤ 7200 * (q + 1) := by omega
  obtain ⟨c1, c2, -, -, c5, c6, c7, c8, c9, c10, c11⟩ := id hC
  obtain ⟨p1, p2, p3, p4, p5, p6, p7⟩ := id hP
  obtain ⟨w1, e1, fr, b1⟩ := v_X10_sheet (F := F) (by omega) p1.1 c5 x y z1 v
  have tw := tw_fr c1 c2 ((fr 0 (fun z => by omega)).2.2 4) fr (fun b z => by omega)
  obtain ⟨m1, m2, m3, m4, m5, m6, m7⟩ := id (MI_fr hM fr (fun b z => .inl (by omega)))
  have g1 : MG w1 (tC w 5) (bC w 23) r p N := ⟨p1, m1, m2, p2.1⟩
  obtain ⟨w2, e2, fm, b2⟩ := v_X11_sheet (F := F) (by omega) p1.1 m1.1 m2 p2.1 x y z1 v
  refine two_fin e1 e2 ⟨tw.1, tw.2.1, tw.2.2, b1, by rw [(fr 6 (fun z => by omega)).1]; exact c5, by rw [(fr 9 (fun z => by omega)).1]; exact c6, PsC_fr c7 fr (fun b z => by unfold PaC; omega), TxC_fr c8 fr (fun z => by omega) (fun z => by omega), Tl_fr c9 fr (fun b z => by omega), NtC_fr c10 fr (fun b z => by omega), KpC_fr c11 fr (fun b z => by omega)⟩ fm (fun a k z => by unfold ShF at z; omega) ⟨MT_fr fm (fun a k z => by unfold ShF at z; unfold Mp; omega) m1, b2, PsM_fr m3 fm (fun a k z => by unfold ShF at z; omega), TxM_fr m4 fm (fun a k z => by unfold ShF at z; omega), TlM_fr m5 fm (fun a k z => by unfold ShF at z; omega), NtM_fr m6 fm (fun a k z => by unfold ShF at z; omega), KpM_mono (KpM_fr m7 fm (fun a k z => by unfold ShF at z; omega)) (Nat.le_succ _)⟩ ⟨p1, BlI_K (BlI_sh p2 x y z1 v) KK, fun x z => BlI_K (p3 x z) KK, fun i x z => BlI_K (p4 i x z) KK, p5, p6, p7⟩
theorem t2_take (hF : 10000 ≤ F) (h : Inv w q) (hq : q ≤ 600) (x : Int32) : Two (P_X10_take F w x) (fun w1 => P_X11_take F w1 x) q := by
  obtain ⟨r, p, N, u, t, n, L, c, f, kp, hC, hM, hP⟩ := Inv_e h
  have h2 : 2000 ≤ F := by omega
  have KK : 7200 * q ≤ 7200 * (q + 1) := by omega
  obtain ⟨c1, c2, -, -, c5, c6, c7, c8, c9, c10, c11⟩ := id hC
  obtain ⟨p1, p2, p3, p4, p5, p6, p7⟩ := id hP
  obtain ⟨w1, e1, fr, b1, u1⟩ := v_X10_take (F := F) (by omega) p1.1 c5 c7 x
  have tw := tw_fr c1 c2 ((fr 0 (fun z => by unfold MPc PaC Scr at z; omega)).2.2 4) fr (fun b z => by unfold MPc PaC Scr at z; omega)
  obtain ⟨m1, m2, m3, m4, m5, m6, m7⟩ := id (MI_fr hM fr (fun b z => .inl (by unfold MPc PaC Scr at z; omega)))
  have g1 : MG w1 (tC w 5) (bC w 23) r p N := ⟨p1, m1, m2, p2.1⟩
  obtain ⟨w2, e2, fm, b2, u2⟩ := v_X11_take (F := F) (by omega) g1 p2.2.1 m3 x
  refine two_fin e1 e2 ⟨tw.1, tw.2.1, tw.2.2, b1, by rw [(fr 6 (fun z => by unfold MPc PaC Scr at z; omega)).1]; exact c5, by rw [(fr 9 (fun z => by unfold MPc PaC Scr at z; omega)).1]; exact c6, u1, TxC_fr c8 fr (fun z => by unfold MPc PaC Scr at z; omega) (fun z => by unfold MPc PaC Scr at z; omega), Tl_fr c9 fr (fun b z => by unfold MPc PaC Scr at z; omega), NtC_fr c10 fr (fun b z => by unfold MPc PaC Scr at z; omega), KpC_fr c11 fr (fun b z => by unfold MPc PaC Scr at z; omega)⟩ fm (fun a k z => by unfold MPm Sc PaM at z; omega) ⟨MT_fr fm (fun a k z => by unfold MPm Sc PaM at z; unfold Mp; omega) m1, b2, u2, TxM_fr m4 fm (fun a k z => by unfold MPm Sc PaM at z; omega), TlM_fr m5 fm (fun a k z => by unfold MPm Sc PaM at z; omega), NtM_fr m6 fm (fun a k z => by unfold MPm Sc PaM at z; omega), KpM_mono (KpM_fr m7 fm (fun a k z => by unfold MPm Sc PaM at z; omega)) (Nat.le_succ _)⟩ ⟨p1, BlI_K (BlI_tk p1.1 p2 x) KK, psh_all (BlI_K p2 KK) (fun x z => BlI_K (p3 x z) KK) _, fun i x z => BlI_K (p4 i x z) KK, p5, p6, p7⟩
theorem t2_leave (hF : 10000 ≤ F) (h : Inv w q) (hq : q ≤ 600) (x : Int32) : Two (P_X10_leave F w x) (fun w1 => P_X11_leave F w1 x) q := by
  obtain ⟨r, p, N, u, t, n, L, c, f, kp, hC, hM, hP⟩ := Inv_e h
  have h2 : 2000 ≤ F := by omega
  have KK : 7200 * q ≤ 7200 * (q + 1) := by omega
  obtain ⟨c1, c2, -, -, c5, c6, c7, c8, c9, c10, c11⟩ := id hC
  obtain ⟨p1, p2, p3, p4, p5, p6, p7⟩ := id hP
  obtain ⟨w1, e1, fr, b1, u1⟩ := v_X10_leave (F := F) (by omega) p1.1 c5 c7 x
  have tw := tw_fr c1 c2 ((fr 0 (fun z => by unfold MPc PaC Scr at z; omega)).2.2 4) fr (fun b z => by unfold MPc PaC Scr at z; omega)
  obtain ⟨m1, m2, m3, m4, m5, m6, m7⟩ := id (MI_fr hM fr (fun b z => .inl (by unfold MPc PaC Scr at z; omega)))
  have g1 : MG w1 (tC w 5) (bC w 23) r p N := ⟨p1, m1, m2, p2.1⟩
  obtain ⟨w2, e2, fm, b2, u2⟩ := v_X11_leave (F := F) (by omega) g1 m3 x
  refine two_fin e1 e2 ⟨tw.1, tw.2.1, tw.2.2, b1, by rw [(fr 6 (fun z => by unfold MPc PaC Scr at z; omega)).1]; exact c5, by rw [(fr 9 (fun z => by unfold MPc PaC Scr at z; omega)).1]; exact c6, u1, TxC_fr c8 fr (fun z => by unfold MPc PaC Scr at z; omega) (fun z => by unfold MPc PaC Scr at z; omega), Tl_fr c9 fr (fun b z => by unfold MPc PaC Scr at z; omega), NtC_fr c10 fr (fun b z => by unfold MPc PaC Scr at z; omega), KpC_fr c11 fr (fun b z => by unfold MPc PaC Scr at z; omega)⟩ fm (fun a k z => by unfold MPm Sc PaM at z; omega) ⟨MT_fr fm (fun a k z => by unfold MPm Sc PaM at z; unfold Mp; omega) m1, b2, u2, TxM_fr m4 fm (fun a k z => by unfold MPm Sc PaM at z; omega), TlM_fr m5 fm (fun a k z => by unfold MPm Sc PaM at z; omega), NtM_fr m6 fm (fun a k z => by unfold MPm Sc PaM at z; omega), KpM_mono (KpM_fr m7 fm (fun a k z => by unfold MPm Sc PaM at z; omega)) (Nat.le_succ _)⟩ ⟨p1, BlI_K (BlI_lv p1.1 p2 x) KK, psh_all (BlI_K p2 KK) (fun x z => BlI_K (p3 x z) KK) _, fun i x z => BlI_K (p4 i x z) KK, p5, p6, p7⟩
theorem t2_mend (hF : 10000 ≤ F) (h : Inv w q) (hq : q ≤ 600) (x : Int32) : Two (P_X10_mend F w x) (fun w1 => P_X11_mend F w1 x) q := by
  obtain ⟨r, p, N, u, t, n, L, c, f, kp, hC, hM, hP⟩ := Inv_e h
  have h2 : 2000 ≤ F := by omega
  have KK : 7200 * q ≤ 7200 * (q + 1) := by omega
  obtain ⟨c1, c2, -, -, c5, c6, c7, c8, c9, c10, c11⟩ := id hC
  obtain ⟨p1, p2, p3, p4, p5, p6, p7⟩ := id hP
  obtain ⟨w1, e1, fr, b1, u1⟩ := v_X10_mend (F := F) (by omega) c7 x
  have tw := tw_fr c1 c2 ((fr 0 (fun z => by unfold MPc PaC Scr at z; omega)).2.2 4) fr (fun b z => by unfold MPc PaC Scr at z; omega)
  obtain ⟨m1, m2, m3, m4, m5, m6, m7⟩ := id (MI_fr hM fr (fun b z => .inl (by unfold MPc PaC Scr at z; omega)))
  have g1 : MG w1 (tC w 5) (bC w 23) r p N := ⟨p1, m1, m2, p2.1⟩
  obtain ⟨w2, e2, fm, b2, u2⟩ := v_X11_mend (F := F) (by omega) g1 m3 x
  refine two_fin e1 e2 ⟨tw.1, tw.2.1, tw.2.2, b1, by rw [(fr 6 (fun z => by unfold MPc PaC Scr at z; omega)).1]; exact c5, by rw [(fr 9 (fun z => by unfold MPc PaC Scr at z; omega)).1]; exact c6, u1, TxC_fr c8 fr (fun z => by unfold MPc PaC Scr at z; omega) (fun z => by unfold MPc PaC Scr at z; omega), Tl_fr c9 fr (fun b z => by unfold MPc PaC Scr at z; omega), NtC_fr c10 fr (fun b z => by unfold MPc PaC Scr at z; omega), KpC_fr c11 fr (fun b z => by unfold MPc PaC Scr at z; omega)⟩ fm (fun a k z => by unfold MPm Sc PaM at z; omega) ⟨MT_fr fm (fun a k z => by unfold MPm Sc PaM at z; unfold Mp; omega) m1, b2, u2, TxM_fr m4 fm (fun a k z => by unfold MPm Sc PaM at z; omega), TlM_fr m5 fm (fun a k z => by unfold MPm Sc PaM at z; omega), NtM_fr m6 fm (fun a k z => by unfold MPm Sc PaM at z; omega), KpM_mono (KpM_fr m7 fm (fun a k z => by unfold MPm Sc PaM at z; omega)) (Nat.le_succ _)⟩ ⟨p1, BlI_K (BlI_mn p2 x).1 KK, psh_all (BlI_K p2 KK) (fun x z => BlI_K (p3 x z) KK) _, fun i x z => BlI_K (p4 i x z) KK, p5, p6, p7⟩
theorem t2_minutes (hF : 10000 ≤ F) (h : Inv w q) (hq : q ≤ 600) (x : Int32) : Two (P_X10_minutes F w x) (fun w1 => P_X11_minutes F w1 x) q := by
  obtain ⟨r, p, N, u, t, n, L, c, f, kp, hC, hM, hP⟩ := Inv_e h
  have h2 : 2000 ≤ F := by omega
  have KK : 7200 * q ≤ 7200 * (q + 1) := by omega
  obtain ⟨c1, c2, -, -, c5, c6, c7, c8, c9, c10, c11⟩ := id hC
  obtain ⟨p1, p2, p3, p4, p5, p6, p7⟩ := id hP
  obtain ⟨w1, e1, fr, b1, u1, l1⟩ := v_X10_minutes (F := F) (by omega) c1 c7 x
  have tw := tw_fr c1 c2 ((fr 0 (fun z => by unfold MPt MPc PaC Scr at z; omega)).2.2 4) fr (fun b z => by unfold MPt MPc PaC Scr at z; omega)
  obtain ⟨m1, m2, m3, m4, m5, m6, m7⟩ := id (MI_fr hM fr (fun b z => .inl (by unfold MPt MPc PaC Scr at z; omega)))
  have g1 : MG w1 (tC w 5) (bC w 23) r p N := ⟨p1, m1, m2, p2.1⟩
  obtain ⟨w2, e2, fm, b2, u2, l2⟩ := v_X11_minutes (F := F) h2 g1 m3 x
  refine two_fin e1 e2 ⟨tw.1, tw.2.1, tw.2.2, b1, by rw [(fr 6 (fun z => by unfold MPt MPc PaC Scr at z; omega)).1]; exact c5, by rw [(fr 9 (fun z => by unfold MPt MPc PaC Scr at z; omega)).1]; exact c6, u1, TxC_fr c8 fr (fun z => by unfold MPt MPc PaC Scr at z; omega) (fun z => by unfold MPt MPc PaC Scr at z; omega), Tl_q c9 l1, NtC_fr c10 fr (fun b z => by unfold MPt MPc PaC Scr at z; omega), KpC_fr c11 fr (fun b z => by unfold MPt MPc PaC Scr at z; omega)⟩ fm (fun a k z => by unfold MPmt MPm Sc PaM Tm at z; omega) ⟨MT_fr fm (fun a k z => by unfold MPmt MPm Sc PaM Tm at z; unfold Mp; omega) m1, b2, u2, TxM_fr m4 fm (fun a k z => by unfold MPmt MPm Sc PaM Tm at z; omega), TlM_q m5 l2, NtM_fr m6 fm (fun a k z => by unfold MPmt MPm Sc PaM Tm at z; omega), KpM_mono (KpM_fr m7 fm (fun a k z => by unfold MPmt MPm Sc PaM Tm at z; omega)) (Nat.le_succ _)⟩ ⟨p1, BlI_K (BlI_ps p1 p2 x).1 (by omega), psh_all (BlI_K p2 KK) (fun x z => BlI_K (p3 x z) KK) _, fun i x z => BlI_K (p4 i x z) KK, p5, ?_, p7⟩
  refine getD_le p6 (fun L' z => ?_)
  unfold qMin at z
  dsimp only at z
  split at z
  · exact absurd z (by simp)
  · rw [← Option.some.inj z]; exact Nat.le_of_ble_eq_true rfl
theorem t2_watch (hF : 10000 ≤ F) (h : Inv w q) (hq : q ≤ 600) : Two (P_X10_watch F w) (fun w1 => P_X11_watch F w1) q := by
  obtain ⟨r, p, N, u, t, n, L, c, f, kp, hC, hM, hP⟩ := Inv_e h
  have h2 : 2000 ≤ F := by omega
  have KK : 7200 * q ≤ 7200 * (q + 1) := by omega
  obtain ⟨c1, c2, -, -, c5, c6, c7, c8, c9, c10, c11⟩ := id hC
  obtain ⟨p1, p2, p3, p4, p5, p6, p7⟩ := id hP
  obtain ⟨w1, e1, fr, b1, u1, l1, x1⟩ := v_X10_watch (F := F) (by omega) c1 p1.1 c5 p2.2.1 c7 c8
  have tw := tw_fr c1 c2 ((fr 0 (fun z => by unfold WPc MPt MPc PaC Scr at z; omega)).2.2 4) fr (fun b z => by unfold WPc MPt MPc PaC Scr at z; omega)
  obtain ⟨m1, m2, m3, m4, m5, m6, m7⟩ := id (MI_fr hM fr (fun b z => .inl (by unfold WPc MPt MPc PaC Scr at z; omega)))
  have g1 : MG w1 (tC w 5) (bC w 23) r p N := ⟨p1, m1, m2, p2.1⟩
  obtain ⟨w2, e2, fm, b2, u2, l2, x2⟩ := v_X11_watch (F := F) h2 g1 p2 m3 m4
  refine two_fin e1 e2 ⟨tw.1, tw.2.1, tw.2.2, b1, by rw [(fr 6 (fun z => by unfold WPc MPt MPc PaC Scr at z; omega)).1]; exact c5, by rw [(fr 9 (fun z => by unfold WPc MPt MPc PaC Scr at z; omega)).1]; exact c6, u1, x1, Tl_q c9 l1, NtC_fr c10 fr (fun b z => by unfold WPc MPt MPc PaC Scr at z; omega), KpC_fr c11 fr (fun b z => by unfold WPc MPt MPc PaC Scr at z; omega)⟩ fm (fun a k z => by unfold Wm MPmt MPm Sc PaM Tm Bg Ra at z; omega) ⟨MT_fr fm (fun a k z => by unfold Wm MPmt MPm Sc PaM Tm Bg Ra at z; unfold Mp; omega) m1, b2, u2, x2, TlM_q m5 l2, NtM_fr m6 fm (fun a k z => by unfold Wm MPmt MPm Sc PaM Tm Bg Ra at z; omega), KpM_mono (KpM_fr m7 fm (fun a k z => by unfold Wm MPmt MPm Sc PaM Tm Bg Ra at z; omega)) (Nat.le_succ _)⟩ ⟨p1, ?_, ?_, fun i x z => BlI_K (p4 i x z) KK, p5, ?_, fun k hk => absurd hk (Nat.not_lt_zero _)⟩
  · unfold bWatch
    by_cases c0 : wtF t n < 0
    · rw [if_pos c0]; exact BlI_K p2 KK
    · rw [if_neg c0]
      exact BlI_K (BlI_rn p1 t (min n 60) (wR t n).2.2 0 _ _ p2) (by have := (wR_le t n).2; omega)
  · intro x z
    unfold uWatch at z
    by_cases c0 : wtF t n < 0
    · rw [if_pos c0] at z; exact BlI_K (p3 x z) KK
    · rw [if_neg c0] at z
      by_cases c3 : (wtP (tC w 5) r (bC w 23) t n).2.1 = 0
      · rw [if_pos c3] at z; exact BlI_K (p3 x z) KK
      · rw [if_neg c3] at z
        exact psh_all (BlI_K p2 KK) (fun x z => BlI_K (p3 x z) KK) 0 x (by unfold pshU; rw [if_neg (by decide)]; exact z)
  · refine getD_le p6 (fun L' z => ?_)
    unfold qWatch at z
    by_cases c0 : wtF t n < 0
    · rw [if_pos c0] at z; exact absurd z (by simp)
    · rw [if_neg c0] at z
      rw [← Option.some.inj z]; exact Nat.le_of_ble_eq_true rfl
theorem t2_undo (hF : 10000 ≤ F) (h : Inv w q) (hq : q ≤ 600) : Two (P_X10_undo F w) (fun w1 => P_X11_undo F w1) q := by
  obtain ⟨r, p, N, u, t, n, L, c, f, kp, hC, hM, hP⟩ := Inv_e h
  have h2 : 2000 ≤ F := by omega
  have KK : 7200 * q ≤ 7200 * (q + 1) := by omega
  obtain ⟨c1, c2, -, -, c5, c6, c7, c8, c9, c10, c11⟩ := id hC
  obtain ⟨p1, p2, p3, p4, p5, p6, p7⟩ := id hP
  obtain ⟨w1, e1, fr, b1, u1⟩ := v_X10_undo (F := F) (by omega) c7
  have tw := tw_fr c1 c2 ((fr 0 (fun z => by unfold PaC at z; omega)).2.2 4) fr (fun b z => by unfold PaC at z; omega)
  obtain ⟨m1, m2, m3, m4, m5, m6, m7⟩ := id (MI_fr hM fr (fun b z => .inl (by unfold PaC at z; omega)))
  have g1 : MG w1 (tC w 5) (bC w 23) r p N := ⟨p1, m1, m2, p2.1⟩
  obtain ⟨w2, e2, fm, b2, u2⟩ := v_X11_undo (F := F) (by omega) m3
  refine two_fin e1 e2 ⟨tw.1, tw.2.1, tw.2.2, b1, by rw [(fr 6 (fun z => by unfold PaC at z; omega)).1]; exact c5, by rw [(fr 9 (fun z => by unfold PaC at z; omega)).1]; exact c6, u1, TxC_fr c8 fr (fun z => by unfold PaC at z; omega) (fun z => by unfold PaC at z; omega), Tl_fr c9 fr (fun b z => by unfold PaC at z; omega), NtC_fr c10 fr (fun b z => by unfold PaC at z; omega), KpC_fr c11 fr (fun b z => by unfold PaC at z; omega)⟩ fm (fun a k z => by omega) ⟨MT_fr fm (fun a k z => by unfold Mp; omega) m1, ?_, u2, TxM_fr m4 fm (fun a k z => by omega), TlM_fr m5 fm (fun a k z => by omega), NtM_fr m6 fm (fun a k z => by omega), KpM_mono (KpM_fr m7 fm (fun a k z => by omega)) (Nat.le_succ _)⟩ ⟨p1, ?_, ?_, fun i x z => BlI_K (p4 i x z) KK, p5, p6, p7⟩
  · rw [b2, m2]
    funext k
    by_cases c0 : k < 16
    · show (if k < 16 then _ else _) = _
      rw [if_pos c0]
    · show (if k < 16 then _ else _) = _
      rw [if_neg c0, ← b1]; exact (bC_hi c0).symm
  · cases u with
    | nil => exact BlI_K p2 KK
    | cons y u => exact BlI_K (p3 y (List.mem_cons_self ..)) KK
  · cases u with
    | nil => exact fun x z => absurd z (by simp [undT])
    | cons y u => exact fun x z => BlI_K (p3 x (List.mem_cons_of_mem _ z)) KK
theorem t2_noted (hF : 10000 ≤ F) (h : Inv w q) (hq : q ≤ 600) (x y v : Int32) : Two (P_X10_noted F w x y v) (fun w1 => P_X11_noted F w1 x y v) q := by
  obtain ⟨r, p, N, u, t, n, L, c, f, kp, hC, hM, hP⟩ := Inv_e h
  have KK : 7200 * q ≤ 7200 * (q + 1) := by omega
  obtain ⟨c1, c2, -, -, c5, c6, c7, c8, c9, c10, c11⟩ := id hC
  obtain ⟨p1, p2, p3, p4, p5, p6, p7⟩ := id hP
  obtain ⟨w1, e1, fr, n1⟩ := v_X10_noted (F := F) c10 x y v
  have tw := tw_fr c1 c2 ((fr 0 (by omega)).2.2 4) fr (fun b z => by omega)
  obtain ⟨m1, m2, m3, m4, m5, m6, m7⟩ := id (MI_fr hM fr (fun b z => .inl (by omega)))
  obtain ⟨w2, e2, fm, n2⟩ := v_X11_noted (F := F) m6 x y v
  have main : ∀ c' f', NtC w1 c' f' → NtM w2 c' f' → okNf c' f' → Two (P_X10_noted F w x y v) (fun w1 => P_X11_noted F w1 x y v) q := fun c' f' nc nm no => two_fin e1 e2 ⟨tw.1, tw.2.1, tw.2.2, bC_fr fr (by omega) (by omega), by rw [(fr 6 (by omega)).1]; exact c5, by rw [(fr 9 (by omega)).1]; exact c6, PsC_fr c7 fr (fun b z => by unfold PaC; omega), TxC_fr c8 fr (by omega) (by omega), Tl_fr c9 fr (fun b z => by omega), nc, KpC_fr c11 fr (fun b z => by omega)⟩ fm (fun a k z => by omega) ⟨MT_fr fm (fun a k z => by unfold Mp; omega) m1, by rw [rM_fr fm (fun k _ z => by omega)]; exact m2, PsM_fr m3 fm (fun a k z => by omega), TxM_fr m4 fm (fun a k z => by omega), TlM_fr m5 fm (fun a k z => by omega), nm, KpM_mono (KpM_fr m7 fm (fun a k z => by omega)) (Nat.le_succ _)⟩ ⟨p1, BlI_K p2 KK, fun x z => BlI_K (p3 x z) KK, fun i x z => BlI_K (p4 i x z) KK, no, p6, p7⟩
  by_cases d : x < 0 ∨ 5 < x ∨ y < -999 ∨ 9999 < y ∨ v < 0 ∨ 1 < v ∨ c = 12
  · rw [if_pos d] at n1 n2
    exact main _ _ n1 n2 p5
  · rw [if_neg d] at n1 n2
    refine main _ _ n1 n2 (fun i hi => ?_)
    by_cases ei : i = c
    · show (if i = c then (if (2 : Nat) = 0 then x else if (2 : Nat) = 1 then y else v) else f 2 i) = 0 ∨ (if i = c then (if (2 : Nat) = 0 then x else if (2 : Nat) = 1 then y else v) else f 2 i) = 1
      rw [if_pos ei, if_neg (by decide), if_neg (by decide)]
      have v0 : ¬ v < 0 := fun z => d (.inr (.inr (.inr (.inr (.inl z)))))
      have v1 : v ≤ 1 := Int32.not_lt.mp (fun z => d (.inr (.inr (.inr (.inr (.inr (.inl z)))))))
      obtain ⟨k, -, k2, rfl⟩ := rng v0 v1 (A := 0) (B := 1)
      rcases (show k = 0 ∨ k = 1 by omega) with rfl | rfl
      · exact .inl rfl
      · exact .inr rfl
    · show (if i = c then _ else f 2 i) = 0 ∨ (if i = c then _ else f 2 i) = 1
      rw [if_neg ei]; exact p5 i (by omega)
theorem t2_forget (hF : 10000 ≤ F) (h : Inv w q) (hq : q ≤ 600) : Two (P_X10_forget F w) (fun w1 => P_X11_forget F w1) q := by
  obtain ⟨r, p, N, u, t, n, L, c, f, kp, hC, hM, hP⟩ := Inv_e h
  have h2 : 2000 ≤ F := by omega
  have KK : 7200 * q ≤ 7200 * (q + 1) := by omega
  obtain ⟨c1, c2, -, -, c5, c6, c7, c8, c9, c10, c11⟩ := id hC
  obtain ⟨p1, p2, p3, p4, p5, p6, p7⟩ := id hP
  obtain ⟨w1, e1, fr, n1⟩ := v_X10_forget (F := F) c10
  have tw := tw_fr c1 c2 ((fr 0 (fun z => by omega)).2.2 4) fr (fun b z => by omega)
  obtain ⟨m1, m2, m3, m4, m5, m6, m7⟩ := id (MI_fr hM fr (fun b z => .inl (by omega)))
  have g1 : MG w1 (tC w 5) (bC w 23) r p N := ⟨p1, m1, m2, p2.1⟩
  obtain ⟨w2, e2, fm, n2⟩ := v_X11_forget (F := F) m6
  refine two_fin e1 e2 ⟨tw.1, tw.2.1, tw.2.2, bC_fr fr (fun z => by omega) (fun z => by omega), by rw [(fr 6 (fun z => by omega)).1]; exact c5, by rw [(fr 9 (fun z => by omega)).1]; exact c6, PsC_fr c7 fr (fun b z => by unfold PaC; omega), TxC_fr c8 fr (fun z => by omega) (fun z => by omega), Tl_fr c9 fr (fun b z => by omega), n1, KpC_fr c11 fr (fun b z => by omega)⟩ fm (fun a k z => by omega) ⟨MT_fr fm (fun a k z => by unfold Mp; omega) m1, by rw [rM_fr fm (fun k _ z => by omega)]; exact m2, PsM_fr m3 fm (fun a k z => by omega), TxM_fr m4 fm (fun a k z => by omega), TlM_fr m5 fm (fun a k z => by omega), n2, KpM_mono (KpM_fr m7 fm (fun a k z => by omega)) (Nat.le_succ _)⟩ ⟨p1, BlI_K p2 KK, fun x z => BlI_K (p3 x z) KK, fun i x z => BlI_K (p4 i x z) KK, fun i hi => absurd hi (Nat.not_lt_zero _), p6, p7⟩
theorem t2_keep (hF : 10000 ≤ F) (h : Inv w q) (hq : q ≤ 600) (x : Int32) : Two (P_X10_keep F w x) (fun w1 => P_X11_keep F w1 x) q := by
  obtain ⟨r, p, N, u, t, n, L, c, f, kp, hC, hM, hP⟩ := Inv_e h
  have h2 : 2000 ≤ F := by omega
  have KK : 7200 * q ≤ 7200 * (q + 1) := by omega
  obtain ⟨c1, c2, -, -, c5, c6, c7, c8, c9, c10, c11⟩ := id hC
  obtain ⟨p1, p2, p3, p4, p5, p6, p7⟩ := id hP
  obtain ⟨w1, e1, fr, k1⟩ := v_X10_keep (F := F) (by omega) c11 x
  have tw := tw_fr c1 c2 (keep_R (F := F) (by omega) e1) fr (fun b z => by unfold KpF at z; omega)
  obtain ⟨m1, m2, m3, m4, m5, m6, m7⟩ := id (MI_fr hM fr (fun b z => .inl (by unfold KpF at z; omega)))
  have g1 : MG w1 (tC w 5) (bC w 23) r p N := ⟨p1, m1, m2, p2.1⟩
  obtain ⟨w2, e2, fm, k2⟩ := v_X11_keep (F := F) (by omega) (show q < 2 ^ 31 by omega) m7 m2 x
  refine two_fin e1 e2 ⟨tw.1, tw.2.1, tw.2.2, bC_fr fr (fun z => by unfold KpF at z; omega) (fun z => by unfold KpF at z; omega), by rw [(fr 6 (fun z => by unfold KpF at z; omega)).1]; exact c5, by rw [(fr 9 (fun z => by unfold KpF at z; omega)).1]; exact c6, PsC_fr c7 fr (fun b z => by unfold KpF at z; unfold PaC; omega), TxC_fr c8 fr (fun z => by unfold KpF at z; omega) (fun z => by unfold KpF at z; omega), Tl_fr c9 fr (fun b z => by unfold KpF at z; omega), NtC_fr c10 fr (fun b z => by unfold KpF at z; omega), k1⟩ fm (fun a k z => by unfold KmF at z; omega) ⟨MT_fr fm (fun a k z => by unfold KmF at z; unfold Mp; omega) m1, by rw [rM_fr fm (fun k _ z => by unfold KmF at z; omega)]; exact m2, PsM_fr m3 fm (fun a k z => by unfold KmF at z; omega), TxM_fr m4 fm (fun a k z => by unfold KmF at z; omega), TlM_fr m5 fm (fun a k z => by unfold KmF at z; omega), NtM_fr m6 fm (fun a k z => by unfold KmF at z; omega), KpM_mono k2 (Nat.le_succ _)⟩ ⟨p1, BlI_K p2 KK, fun x z => BlI_K (p3 x z) KK, ?_, p5, p6, p7⟩
  intro i y z
  unfold qKeep at z
  by_cases d1 : x < 0
  · rw [if_pos d1] at z; exact BlI_K (p4 i y z) KK
  rw [if_neg d1] at z
  by_cases d2 : x < 3
  · rw [if_pos d2] at z
    have z : (if i = x.toNatClampNeg then some (bC w 23) else kp i) = some y := z
    by_cases d3 : i = x.toNatClampNeg
    · rw [if_pos d3] at z; rw [← Option.some.inj z]; exact BlI_K p2 KK
    · rw [if_neg d3] at z; exact BlI_K (p4 i y z) KK
  · rw [if_neg d2] at z; exact BlI_K (p4 i y z) KK
theorem t2_again (hF : 10000 ≤ F) (h : Inv w q) (hq : q ≤ 600) (x : Int32) : Two (P_X10_again F w x) (fun w1 => P_X11_again F w1 x) q := by
  obtain ⟨r, p, N, u, t, n, L, c, f, kp, hC, hM, hP⟩ := Inv_e h
  have h2 : 2000 ≤ F := by omega
  have KK : 7200 * q ≤ 7200 * (q + 1) := by omega
  obtain ⟨c1, c2, -, -, c5, c6, c7, c8, c9, c10, c11⟩ := id hC
  obtain ⟨p1, p2, p3, p4, p5, p6, p7⟩ := id hP
  obtain ⟨w1, e1, fr, b1, u1⟩ := v_X10_again (F := F) (by omega) c11 c7 x
  have qa : ∀ K, (7200 * q ≤ K) → BlI (qAgain x kp (bC w 23) u).2.1 r p K ∧ ∀ y, y ∈ (qAgain x kp (bC w 23) u).2.2 → BlI y r p K := fun K hK => by
    unfold qAgain
    by_cases d1 : x < 0
    · rw [if_pos d1]; exact ⟨BlI_K p2 hK, fun y z => BlI_K (p3 y z) hK⟩
    rw [if_neg d1]
    by_cases d2 : x < 3
    · rw [if_pos d2]
      cases e : kp x.toNatClampNeg with
      | none => exact ⟨BlI_K p2 hK, fun y z => BlI_K (p3 y z) hK⟩
      | some y => exact ⟨BlI_K (p4 _ y e) hK, fun y z => absurd z (by simp)⟩
    · rw [if_neg d2]; exact ⟨BlI_K p2 hK, fun y z => BlI_K (p3 y z) hK⟩
  have tw := tw_fr c1 c2 ((fr 0 (fun z => by omega)).2.2 4) fr (fun b z => by omega)
  obtain ⟨m1, m2, m3, m4, m5, m6, m7⟩ := id (MI_fr hM fr (fun b z => .inl (by omega)))
  have g1 : MG w1 (tC w 5) (bC w 23) r p N := ⟨p1, m1, m2, p2.1⟩
  obtain ⟨w2, e2, fm, b2, u2⟩ := v_X11_again (F := F) (by omega) (show q < 2 ^ 31 by omega) m7 m2 m3 x
  refine two_fin e1 e2 ⟨tw.1, tw.2.1, tw.2.2, b1, by rw [(fr 6 (fun z => by omega)).1]; exact c5, by rw [(fr 9 (fun z => by omega)).1]; exact c6, u1, TxC_fr c8 fr (fun z => by omega) (fun z => by omega), Tl_fr c9 fr (fun b z => by omega), NtC_fr c10 fr (fun b z => by omega), KpC_fr c11 fr (fun b z => by omega)⟩ fm (fun a k z => by unfold KaF at z; omega) ⟨MT_fr fm (fun a k z => by unfold KaF at z; unfold Mp; omega) m1, ?_, u2, TxM_fr m4 fm (fun a k z => by unfold KaF at z; omega), TlM_fr m5 fm (fun a k z => by unfold KaF at z; omega), NtM_fr m6 fm (fun a k z => by unfold KaF at z; omega), KpM_mono (KpM_fr m7 fm (fun a k z => by unfold KaF at z; omega)) (Nat.le_succ _)⟩ ⟨p1, (qa _ KK).1, (qa _ KK).2, fun i x z => BlI_K (p4 i x z) KK, p5, p6, p7⟩
  rw [b2]
  funext k
  by_cases c0 : k < 16
  · show (if k < 16 then _ else _) = _
    rw [if_pos c0]
  · show (if k < 16 then _ else _) = _
    rw [if_neg c0, ← b1]; exact (bC_hi c0).symm
theorem t2_count (hF : 10000 ≤ F) (h : Inv w q) (hq : q ≤ 600) (x : Int32) : Two (P_X10_count F w x) (fun w1 => P_X11_count F w1 x) q := by
  obtain ⟨r, p, N, u, t, n, L, c, f, kp, hC, hM, hP⟩ := Inv_e h
  have KK : 7200 * q ≤ 7200 * (q + 1) := by omega
  obtain ⟨c1, c2, -, -, c5, c6, c7, c8, c9, c10, c11⟩ := id hC
  obtain ⟨m1, m2, m3, m4, m5, m6, m7⟩ := id hM
  obtain ⟨x0, -, -, -, x4, -⟩ := id c7
  have e1 := v_X10_count F c5 c6 c10.1 x4 c9.1 c8.1 x
  have e2 := v_X11_count F m1 m6.1 m3.2.1 m5.1 m4.1 x
  rw [m2] at e2
  have fm : Fm (fun a k => a = 88 ∧ k = 0) w (sI w 88 0 0) := Fm.rfl'.sI ⟨rfl, rfl⟩
  exact two_fin e1 e2 hC fm (fun a k z => by omega) ⟨MT_fr fm (fun a k z => by unfold Mp; omega) m1, by rw [rM_fr fm (fun k _ z => by omega)]; exact m2, PsM_fr m3 fm (fun a k z => by omega), TxM_fr m4 fm (fun a k z => by omega), TlM_fr m5 fm (fun a k z => by omega), NtM_fr m6 fm (fun a k z => by omega), KpM_mono (KpM_fr m7 fm (fun a k z => by omega)) (Nat.le_succ _)⟩ (PI_K hP KK)
theorem t2_rule (hF : 10000 ≤ F) (h : Inv w q) (hq : q ≤ 600) : Two (P_X10_rule F w) (fun w1 => P_X11_rule F w1) q := by
  obtain ⟨r, p, N, u, t, n, L, c, f, kp, hC, hM, hP⟩ := Inv_e h
  have KK : 7200 * q ≤ 7200 * (q + 1) := by omega
  obtain ⟨c1, c2, -, -, c5, c6, c7, c8, c9, c10, c11⟩ := id hC
  obtain ⟨p1, p2, p3, p4, p5, p6, p7⟩ := id hP
  obtain ⟨-, -, -, -, hp, -, -⟩ := v_X11_rule (F := F) (by omega) hM.1 hM.2.2.2.1
  obtain ⟨w1, e1, fr, k0, x1, o1, s1, nr, nt⟩ := v_X10_rule (F := F) (by omega) c1 c2 c8 p7 hp
  have un : ∀ {b}, LwP b → b = 0 ∨ b = 1 ∨ b = 5 ∨ (12 ≤ b ∧ b ≤ 22) := fun {b} z => z
  obtain ⟨m1, m2, m3, m4, m5, m6, m7⟩ := id (MI_fr hM fr (fun b z => .inl (by have := un z; omega)))
  obtain ⟨w2, e2, fm, x2, -, mr, mt⟩ := v_X11_rule (F := F) (by omega) m1 m4
  have kc : KpC w1 kp := by
    obtain ⟨s, k1, k2, k3⟩ := c11
    exact ⟨s, k1, by rw [k0]; exact k2, fun i hi => ⟨(k3 i hi).1, fun b hb => by rw [bC_fr fr (fun z => by have := un z; omega) (fun z => by have := un z; omega)]; exact (k3 i hi).2 b hb⟩⟩
  have vn : ∀ {a k}, RuF a k → (a = 88 ∧ (k = 0 ∨ (14 ≤ k ∧ k ≤ 17) ∨ k = 22 ∨ k = 23)) ∨ a = 99 ∨ a = 100 := fun {a k} z => z
  have main : ∀ N', MT w2 (tC w1 5) r p N' → okTw (tC w1 5) r p N' → Two (P_X10_rule F w) (fun w1 => P_X11_rule F w1) q := fun N' h1 h2 => two_fin e1 e2 ⟨o1, s1, rfl, bC_fr fr (fun z => by have := un z; omega) (fun z => by have := un z; omega), by rw [(fr 6 (fun z => by have := un z; omega)).1]; exact c5, by rw [(fr 9 (fun z => by have := un z; omega)).1]; exact c6, PsC_fr c7 fr (fun b z => by have := un z; unfold PaC; omega), x1, Tl_fr c9 fr (fun b z => by have := un z; omega), NtC_fr c10 fr (fun b z => by have := un z; omega), kc⟩ fm (fun a k z => by have := vn z; omega) ⟨h1, by rw [rM_fr fm (fun k _ z => by have := vn z; omega)]; exact m2, PsM_fr m3 fm (fun a k z => by have := vn z; omega), x2, TlM_fr m5 fm (fun a k z => by have := vn z; omega), NtM_fr m6 fm (fun a k z => by have := vn z; omega), KpM_mono (KpM_fr m7 fm (fun a k z => by have := vn z; omega)) (Nat.le_succ _)⟩ ⟨h2, BlI_K p2 KK, fun x z => BlI_K (p3 x z) KK, fun i x z => BlI_K (p4 i x z) KK, p5, p6, fun k hk => absurd hk (Nat.not_lt_zero _)⟩
  by_cases d : wtU t n = 0
  · have nr := nr d
    refine main _ (mr d _ nr) (okTw_new p1 nr ?_)
    have hn := c8.2.1
    rcases rf_wt t n hn hp with ⟨-, -, r3, -, -⟩ | ⟨-, -, r3⟩
    · obtain ⟨-, -, -, -, -, -, a6⟩ := v_X11_readsRule (F := F) (by omega) m4
      exact okR_ext (fun k hk => (nr.2.2 k hk).symm) (okSw_R _ (wU_ok r3) a6)
    · rw [d] at r3; exact absurd r3 (by decide)
  · have nt := nt d
    exact main N (by rw [nt]; exact mt d) (by rw [nt]; exact p1)
theorem t2_law (hF : 10000 ≤ F) (h : Inv w q) (hq : q ≤ 600) : Two (P_X10_law F w) (fun w1 => P_X11_law F w1) q := by
  obtain ⟨r, p, N, u, t, n, L, c, f, kp, hC, hM, hP⟩ := Inv_e h
  have KK : 7200 * q ≤ 7200 * (q + 1) := by omega
  obtain ⟨c1, c2, -, -, c5, c6, c7, c8, c9, c10, c11⟩ := id hC
  obtain ⟨p1, p2, p3, p4, p5, p6, p7⟩ := id hP
  obtain ⟨-, -, -, -, hp, -, -⟩ := v_X11_rule (F := F) (by omega) hM.1 hM.2.2.2.1
  obtain ⟨v, w1, e1, fr, x1, o1, s1, t1, nr, nt⟩ := v_X10_law (F := F) (by omega) c1 c2 c8 p7 hp
  have un : ∀ {b}, LwQ b → b = 1 ∨ b = 3 ∨ b = 4 ∨ (12 ≤ b ∧ b ≤ 22) ∨ (25 ≤ b ∧ b ≤ 28) := fun {b} z => z
  obtain ⟨m1, m2, m3, m4, m5, m6, m7⟩ := id (MI_fr hM fr (fun b z => .inl (by have := un z; omega)))
  have g1 : MG w1 (tC w 5) (bC w 23) r p N := ⟨p1, m1, m2, p2.1⟩
  obtain ⟨v2, w2, e2, fm, x2, -, h1, hb, mr, mt⟩ := v_X11_law (F := F) (by omega) g1 m4
  have vn : ∀ {a k}, LmF a k → ((a = 88 ∧ (k = 0 ∨ k = 1 ∨ k = 34 ∨ k = 43 ∨ k = 44 ∨ (14 ≤ k ∧ k ≤ 17) ∨ k = 22 ∨ k = 23)) ∨ a = 89 ∨ a = 96 ∨ (99 ≤ a ∧ a ≤ 102) ∨ (107 ≤ a ∧ a ≤ 110) ∨ a = 114 ∨ a = 115) := fun {a k} z => by unfold LmF QM QN Tm RuF at z; omega
  have main : ∀ L', v2 = v → Tl w1 L' → TlM w2 L' → L'.length ≤ 6 → Two (P_X10_law F w) (fun w1 => P_X11_law F w1) q := fun L' ev l1 l2 l6 => two_fin e1 (by rw [← ev]; exact e2) ⟨o1, s1, t1, bC_fr fr (fun z => by have := un z; omega) (fun z => by have := un z; omega), by rw [(fr 6 (fun z => by have := un z; omega)).1]; exact c5, by rw [(fr 9 (fun z => by have := un z; omega)).1]; exact c6, PsC_fr c7 fr (fun b z => by have := un z; unfold PaC; omega), x1, l1, NtC_fr c10 fr (fun b z => by have := un z; omega), KpC_fr c11 fr (fun b z => by have := un z; omega)⟩ fm (fun a k z => by have := vn z; omega) ⟨h1, hb, PsM_fr m3 fm (fun a k z => by have := vn z; omega), x2, l2, NtM_fr m6 fm (fun a k z => by have := vn z; omega), KpM_mono (KpM_fr m7 fm (fun a k z => by have := vn z; omega)) (Nat.le_succ _)⟩ ⟨p1, BlI_K p2 KK, fun x z => BlI_K (p3 x z) KK, fun i x z => BlI_K (p4 i x z) KK, p5, l6, fun k hk => absurd hk (Nat.not_lt_zero _)⟩
  by_cases d : wtU t n = 0
  · obtain ⟨T', n1, n2, n3, n4⟩ := nr d
    obtain ⟨k1, k2⟩ := mr d T' n1 n2
    exact main _ (k1.trans n3.symm) n4 k2 (Nat.le_of_ble_eq_true rfl)
  · obtain ⟨n3, n4⟩ := nt d
    obtain ⟨k1, k2⟩ := mt d
    exact main L (k1.trans n3.symm) (Tl_q c9 n4) (TlM_q m5 k2) p6
/-- questions that may be refused -/
def TwoR {α : Type} (oC : Option (Option α × Wd)) (oM : Wd → Option (α × Wd)) (q : Nat) : Prop := ∃ o w1, oC = some (o, w1) ∧ ∀ w1', Fr (fun b => b = 119) w1 w1' → ∃ v w2, oM w1' = some (v, w2) ∧ gI w2 88 0 = (if o.isSome then 0 else 1) ∧ (∀ z, o = some z → v = z) ∧ Inv w2 (q + 1) ∧ ∀ k, gJ w2 119 k = gJ w1' 119 k
theorem two_r {α : Type} {g : Nat → Prop} {T : Tw} {b : Bl} {r p N : Nat} {u : Us} {t : Nat → Int32} {n : Nat} {L : List Int64} {c : Nat} {f : Nf} {kp : Kb} (hC : CI w T b r p u t n L c f kp) (hM : MI w T b r p N u t n L c f kp q) (hP : PI T b r p N (7200 * q) u t n L c f kp) {oC : Option (Option α × Wd)} {oM : Wd → Option (α × Wd)} {o : Option α} {w1 : Wd} (e1 : oC = some (o, w1)) (fr : Fr g w w1) (hg : ∀ b, g b → Scr b) (hm : ∀ v, MI v T b r p N u t n L c f kp q → AskR (oM v) o v) : TwoR oC oM q := by
  refine ⟨o, w1, e1, fun w1' f19 => ?_⟩
  have fA : Fr (fun b => Scr b ∨ b = 119) w w1' := fr.tr f19 (fun b z => .inl (hg b z)) (fun _ z => .inr z)
  obtain ⟨c1, c2, c3, c4, c5, c6, c7, c8, c9, c10, c11⟩ := id hC
  have tw := tw_fr c1 c2 ((fA 0 (fun z => by unfold Scr at z; omega)).2.2 4) fA (fun b z => by unfold Scr at z; omega)
  have hC' : CI w1' T b r p u t n L c f kp := ⟨tw.1, tw.2.1, tw.2.2.trans c3, by rw [bC_fr fA (fun z => by unfold Scr at z; omega) (fun z => by unfold Scr at z; omega)]; exact c4, by rw [(fA 6 (fun z => by unfold Scr at z; omega)).1]; exact c5, by rw [(fA 9 (fun z => by unfold Scr at z; omega)).1]; exact c6, PsC_fr c7 fA (fun b z => by unfold Scr at z; unfold PaC; omega), TxC_fr c8 fA (fun z => by unfold Scr at z; omega) (fun z => by unfold Scr at z; omega), Tl_fr c9 fA (fun b z => by unfold Scr at z; omega), NtC_fr c10 fA (fun b z => by unfold Scr at z; omega), KpC_fr c11 fA (fun b z => by unfold Scr at z; omega)⟩
  have hM' := MI_fr hM fA (fun b z => by unfold Scr at z; omega)
  obtain ⟨v, w2, e2, fm, k1, k2⟩ := hm w1' hM'
  have un : ∀ {a k}, QN a k → (a = 88 ∧ (k = 0 ∨ k = 34 ∨ k = 43 ∨ k = 44)) ∨ a = 96 ∨ a = 101 ∨ a = 102 ∨ (107 ≤ a ∧ a ≤ 109) ∨ a = 114 ∨ a = 115 := fun {a k} z => z
  obtain ⟨m1, m2, m3, m4, m5, m6, m7⟩ := hM'
  exact ⟨v, w2, e2, k1, k2, ⟨T, b, r, p, N, u, t, n, L, c, f, kp, CI_fm hC' fm (fun a k z => by have := un z; omega), ⟨MT_fr fm (fun _ _ z => QN_Mp z) m1, by rw [rM_fr fm (fun k _ z => QN95 z)]; exact m2, PsM_fr m3 fm (fun a k z => by have := un z; omega), TxM_fr m4 fm (fun a k z => by have := un z; omega), TlM_fr m5 fm (fun a k z => by have := un z; omega), NtM_fr m6 fm (fun a k z => by have := un z; omega), KpM_mono (KpM_fr m7 fm (fun a k z => by have := un z; omega)) (Nat.le_succ _)⟩, PI_K hP (by omega)⟩, fun k => (fm 119 k (fun z => by have := un z; omega)).2.1⟩
theorem t2_ringer (hF : 10000 ≤ F) (h : Inv w q) (hq : q ≤ 600) (x y : Int32) : TwoR (P_X10_ringer F w x y) (fun w1 => P_X11_ringer F w1 x y) q := by
  obtain ⟨r, p, N, u, t, n, L, c, f, kp, hC, hM, hP⟩ := Inv_e h
  obtain ⟨w1, e1, fr⟩ := v_X10_ringer (F := F) (by omega) hC.1 hP.1.1 hC.2.2.2.2.1 x y
  exact two_r hC hM hP e1 fr (fun _ z => z) (fun v m => v_X11_ringer (F := F) (by omega) (MG_of m hP) x y)
theorem t2_person (hF : 10000 ≤ F) (h : Inv w q) (hq : q ≤ 600) (x y : Int32) : TwoR (P_X10_person F w x y) (fun w1 => P_X11_person F w1 x y) q := by
  obtain ⟨r, p, N, u, t, n, L, c, f, kp, hC, hM, hP⟩ := Inv_e h
  have e1 := v_X10_person F hP.1.2.1 hC.2.2.2.2.2.1 x y
  exact two_r hC hM hP e1 (Fr.rfl' (p := Scr)) (fun _ z => z) (fun v m => v_X11_person (F := F) (MG_of m hP) x y)
theorem t2_row (hF : 10000 ≤ F) (h : Inv w q) (hq : q ≤ 600) (x : Int32) : TwoR (P_X10_row F w x) (fun w1 => P_X11_row F w1 x) q := by
  obtain ⟨r, p, N, u, t, n, L, c, f, kp, hC, hM, hP⟩ := Inv_e h
  have e1 := v_X10_row (F := F) hP.2.2.2.2.2.1 hC.2.2.2.2.2.2.2.2.1 x
  exact two_r hC hM hP e1 (Fr.rfl' (p := Scr)) (fun _ z => z) (fun v m => v_X11_row (F := F) hP.2.2.2.2.2.1 m.2.2.2.2.1 x)
end CH
