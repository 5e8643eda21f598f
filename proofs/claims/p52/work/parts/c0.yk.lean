-- ===== the class's calls, by what it keeps =====
def CJ (w : Wd) (T : Tw) (b : Bl) (r p K : Nat) (u : Us) (t : Nat → Int32) (n : Nat) (L : List Int64) : Prop := ∃ (N c : Nat) (f : Nf) (kp : Kb), CI w T b r p u t n L c f kp ∧ PI T b r p N K u t n L c f kp
section KCALLS
variable {F : Nat} {w : Wd} {T : Tw} {b : Bl} {r p K : Nat} {u : Us} {t : Nat → Int32} {n : Nat} {L : List Int64}
theorem CJ_mono {K2 : Nat} (h : CJ w T b r p K u t n L) (hk : K ≤ K2) : CJ w T b r p K2 u t n L := by
  obtain ⟨N, c, f, kp, h1, h2⟩ := h
  exact ⟨N, c, f, kp, h1, PI_K h2 hk⟩
/-- what was read in is known by its signs alone -/
theorem CJ_t {t2 : Nat → Int32} (h : CJ w T b r p K u t n L) (e : ∀ k, k < n → t k = t2 k) : CJ w T b r p K u t2 n L := by
  obtain ⟨N, c, f, kp, ⟨c1, c2, c3, c4, c5, c6, c7, c8, c9, c10, c11⟩, ⟨p1, p2, p3, p4, p5, p6, p7⟩⟩ := h
  exact ⟨N, c, f, kp, ⟨c1, c2, c3, c4, c5, c6, c7, ⟨c8.1, c8.2.1, fun k hk => (c8.2.2 k hk).trans (e k hk)⟩, c9, c10, c11⟩, ⟨p1, p2, p3, p4, p5, p6, fun k hk => by rw [← e k hk]; exact p7 k hk⟩⟩
theorem k_take (hF : 10000 ≤ F) (h : CJ w T b r p K u t n L) (x : Int32)  : ∃ w1, P_X10_take F w x = some ((tkP r b x).1, w1) ∧ CJ w1 T (tkP r b x).2 r p (K + 7200) (pshU (tkP r b x).1 b u) t n L := by
  obtain ⟨N, c, f, kp, hC, hP⟩ := h
  obtain ⟨c1, c2, rfl, rfl, c5, c6, c7, c8, c9, c10, c11⟩ := id hC
  obtain ⟨p1, p2, p3, p4, p5, p6, p7⟩ := id hP
  have KK : K ≤ K + 7200 := by omega
  obtain ⟨w1, e1, fr, b1, u1⟩ := v_X10_take (F := F) (by omega) p1.1 c5 c7 x
  have tw := tw_fr c1 c2 ((fr 0 (fun z => by unfold MPc PaC Scr at z; omega)).2.2 4) fr (fun b z => by unfold MPc PaC Scr at z; omega)
  refine ⟨w1, e1, N, c, f, kp, ⟨tw.1, tw.2.1, tw.2.2, b1, by rw [(fr 6 (fun z => by unfold MPc PaC Scr at z; omega)).1]; exact c5, by rw [(fr 9 (fun z => by unfold MPc PaC Scr at z; omega)).1]; exact c6, u1, TxC_fr c8 fr (fun z => by unfold MPc PaC Scr at z; omega) (fun z => by unfold MPc PaC Scr at z; omega), Tl_fr c9 fr (fun b z => by unfold MPc PaC Scr at z; omega), NtC_fr c10 fr (fun b z => by unfold MPc PaC Scr at z; omega), KpC_fr c11 fr (fun b z => by unfold MPc PaC Scr at z; omega)⟩, ⟨p1, BlI_K (BlI_tk p1.1 p2 x) KK, psh_all (BlI_K p2 KK) (fun x z => BlI_K (p3 x z) KK) _, fun i x z => BlI_K (p4 i x z) KK, p5, p6, p7⟩⟩
theorem k_leave (hF : 10000 ≤ F) (h : CJ w T b r p K u t n L) (x : Int32)  : ∃ w1, P_X10_leave F w x = some ((lvP r b x).1, w1) ∧ CJ w1 T (lvP r b x).2 r p (K + 7200) (pshU (lvP r b x).1 b u) t n L := by
  obtain ⟨N, c, f, kp, hC, hP⟩ := h
  obtain ⟨c1, c2, rfl, rfl, c5, c6, c7, c8, c9, c10, c11⟩ := id hC
  obtain ⟨p1, p2, p3, p4, p5, p6, p7⟩ := id hP
  have KK : K ≤ K + 7200 := by omega
  obtain ⟨w1, e1, fr, b1, u1⟩ := v_X10_leave (F := F) (by omega) p1.1 c5 c7 x
  have tw := tw_fr c1 c2 ((fr 0 (fun z => by unfold MPc PaC Scr at z; omega)).2.2 4) fr (fun b z => by unfold MPc PaC Scr at z; omega)
  refine ⟨w1, e1, N, c, f, kp, ⟨tw.1, tw.2.1, tw.2.2, b1, by rw [(fr 6 (fun z => by unfold MPc PaC Scr at z; omega)).1]; exact c5, by rw [(fr 9 (fun z => by unfold MPc PaC Scr at z; omega)).1]; exact c6, u1, TxC_fr c8 fr (fun z => by unfold MPc PaC Scr at z; omega) (fun z => by unfold MPc PaC Scr at z; omega), Tl_fr c9 fr (fun b z => by unfold MPc PaC Scr at z; omega), NtC_fr c10 fr (fun b z => by unfold MPc PaC Scr at z; omega), KpC_fr c11 fr (fun b z => by unfold MPc PaC Scr at z; omega)⟩, ⟨p1, BlI_K (BlI_lv p1.1 p2 x) KK, psh_all (BlI_K p2 KK) (fun x z => BlI_K (p3 x z) KK) _, fun i x z => BlI_K (p4 i x z) KK, p5, p6, p7⟩⟩
theorem k_mend (hF : 10000 ≤ F) (h : CJ w T b r p K u t n L) (x : Int32)  : ∃ w1, P_X10_mend F w x = some ((mnP b x).1, w1) ∧ CJ w1 T (mnP b x).2 r p (K + 7200) (pshU (mnP b x).1 b u) t n L := by
  obtain ⟨N, c, f, kp, hC, hP⟩ := h
  obtain ⟨c1, c2, rfl, rfl, c5, c6, c7, c8, c9, c10, c11⟩ := id hC
  obtain ⟨p1, p2, p3, p4, p5, p6, p7⟩ := id hP
  have KK : K ≤ K + 7200 := by omega
  obtain ⟨w1, e1, fr, b1, u1⟩ := v_X10_mend (F := F) (by omega) c7 x
  have tw := tw_fr c1 c2 ((fr 0 (fun z => by unfold MPc PaC Scr at z; omega)).2.2 4) fr (fun b z => by unfold MPc PaC Scr at z; omega)
  refine ⟨w1, e1, N, c, f, kp, ⟨tw.1, tw.2.1, tw.2.2, b1, by rw [(fr 6 (fun z => by unfold MPc PaC Scr at z; omega)).1]; exact c5, by rw [(fr 9 (fun z => by unfold MPc PaC Scr at z; omega)).1]; exact c6, u1, TxC_fr c8 fr (fun z => by unfold MPc PaC Scr at z; omega) (fun z => by unfold MPc PaC Scr at z; omega), Tl_fr c9 fr (fun b z => by unfold MPc PaC Scr at z; omega), NtC_fr c10 fr (fun b z => by unfold MPc PaC Scr at z; omega), KpC_fr c11 fr (fun b z => by unfold MPc PaC Scr at z; omega)⟩, ⟨p1, BlI_K ((BlI_mn p2 x).1) KK, psh_all (BlI_K p2 KK) (fun x z => BlI_K (p3 x z) KK) _, fun i x z => BlI_K (p4 i x z) KK, p5, p6, p7⟩⟩
theorem k_minutes (hF : 10000 ≤ F) (h : CJ w T b r p K u t n L) (x : Int32)  : ∃ w1, P_X10_minutes F w x = some ((qMin T b x).1, w1) ∧ CJ w1 T (psP T b x).2 r p (K + 7200) (pshU (psP T b x).1 b u) t n ((qMin T b x).2.getD L) := by
  obtain ⟨N, c, f, kp, hC, hP⟩ := h
  obtain ⟨c1, c2, rfl, rfl, c5, c6, c7, c8, c9, c10, c11⟩ := id hC
  obtain ⟨p1, p2, p3, p4, p5, p6, p7⟩ := id hP
  have KK : K ≤ K + 7200 := by omega
  obtain ⟨w1, e1, fr, b1, u1, l1⟩ := v_X10_minutes (F := F) (by omega) c1 c7 x
  have tw := tw_fr c1 c2 ((fr 0 (fun z => by unfold MPt MPc PaC Scr at z; omega)).2.2 4) fr (fun b z => by unfold MPt MPc PaC Scr at z; omega)
  refine ⟨w1, e1, N, c, f, kp, ⟨tw.1, tw.2.1, tw.2.2, b1, by rw [(fr 6 (fun z => by unfold MPt MPc PaC Scr at z; omega)).1]; exact c5, by rw [(fr 9 (fun z => by unfold MPt MPc PaC Scr at z; omega)).1]; exact c6, u1, TxC_fr c8 fr (fun z => by unfold MPt MPc PaC Scr at z; omega) (fun z => by unfold MPt MPc PaC Scr at z; omega), Tl_q c9 l1, NtC_fr c10 fr (fun b z => by unfold MPt MPc PaC Scr at z; omega), KpC_fr c11 fr (fun b z => by unfold MPt MPc PaC Scr at z; omega)⟩, ⟨p1, BlI_K (BlI_ps p1 p2 x).1 (by omega), psh_all (BlI_K p2 KK) (fun x z => BlI_K (p3 x z) KK) _, fun i x z => BlI_K (p4 i x z) KK, p5, ?_, p7⟩⟩
  refine getD_le p6 (fun L' z => ?_)
  unfold qMin at z
  dsimp only at z
  split at z
  · exact absurd z (by simp)
  · rw [← Option.some.inj z]; exact Nat.le_of_ble_eq_true rfl
theorem k_watch (hF : 10000 ≤ F) (h : CJ w T b r p K u t n L)   : ∃ w1, P_X10_watch F w  = some ((qWatch T r b t n).1, w1) ∧ CJ w1 T (bWatch T r b t n) r p (K + 7200) (uWatch T r b t n u) t 0 ((qWatch T r b t n).2.getD L) := by
  obtain ⟨N, c, f, kp, hC, hP⟩ := h
  obtain ⟨c1, c2, rfl, rfl, c5, c6, c7, c8, c9, c10, c11⟩ := id hC
  obtain ⟨p1, p2, p3, p4, p5, p6, p7⟩ := id hP
  have KK : K ≤ K + 7200 := by omega
  obtain ⟨w1, e1, fr, b1, u1, l1, x1⟩ := v_X10_watch (F := F) (by omega) c1 p1.1 c5 p2.2.1 c7 c8
  have tw := tw_fr c1 c2 ((fr 0 (fun z => by unfold WPc MPt MPc PaC Scr at z; omega)).2.2 4) fr (fun b z => by unfold WPc MPt MPc PaC Scr at z; omega)
  refine ⟨w1, e1, N, c, f, kp, ⟨tw.1, tw.2.1, tw.2.2, b1, by rw [(fr 6 (fun z => by unfold WPc MPt MPc PaC Scr at z; omega)).1]; exact c5, by rw [(fr 9 (fun z => by unfold WPc MPt MPc PaC Scr at z; omega)).1]; exact c6, u1, x1, Tl_q c9 l1, NtC_fr c10 fr (fun b z => by unfold WPc MPt MPc PaC Scr at z; omega), KpC_fr c11 fr (fun b z => by unfold WPc MPt MPc PaC Scr at z; omega)⟩, ⟨p1, ?_, ?_, fun i x z => BlI_K (p4 i x z) KK, p5, ?_, fun k hk => absurd hk (Nat.not_lt_zero _)⟩⟩
  · unfold bWatch
    by_cases c0 : wtF t n < 0
    · rw [if_pos c0]; exact BlI_K p2 KK
    · rw [if_neg c0]
      exact BlI_K (BlI_rn p1 t (min n 60) (wR t n).2.2 0 _ _ p2) (by have := (wR_le t n).2; omega)
  · intro x z
    unfold uWatch at z
    by_cases c0 : wtF t n < 0
    · rw [if_pos c0] at z; exact BlI_K (p3 x z) KK
    · rw [if_neg c0] at z
      by_cases c3 : (wtP (tC w 5) r (bC w 23) t n).2.1 = 0
      · rw [if_pos c3] at z; exact BlI_K (p3 x z) KK
      · rw [if_neg c3] at z
        exact psh_all (BlI_K p2 KK) (fun x z => BlI_K (p3 x z) KK) 0 x (by unfold pshU; rw [if_neg (by decide)]; exact z)
  · refine getD_le p6 (fun L' z => ?_)
    unfold qWatch at z
    by_cases c0 : wtF t n < 0
    · rw [if_pos c0] at z; exact absurd z (by simp)
    · rw [if_neg c0] at z
      rw [← Option.some.inj z]; exact Nat.le_of_ble_eq_true rfl
theorem k_undo (hF : 10000 ≤ F) (h : CJ w T b r p K u t n L)   : ∃ w1, P_X10_undo F w  = some (undA u, w1) ∧ CJ w1 T (undB u b) r p (K + 7200) (undT u) t n L := by
  obtain ⟨N, c, f, kp, hC, hP⟩ := h
  obtain ⟨c1, c2, rfl, rfl, c5, c6, c7, c8, c9, c10, c11⟩ := id hC
  obtain ⟨p1, p2, p3, p4, p5, p6, p7⟩ := id hP
  have KK : K ≤ K + 7200 := by omega
  obtain ⟨w1, e1, fr, b1, u1⟩ := v_X10_undo (F := F) (by omega) c7
  have tw := tw_fr c1 c2 ((fr 0 (fun z => by unfold PaC at z; omega)).2.2 4) fr (fun b z => by unfold PaC at z; omega)
  refine ⟨w1, e1, N, c, f, kp, ⟨tw.1, tw.2.1, tw.2.2, b1, by rw [(fr 6 (fun z => by unfold PaC at z; omega)).1]; exact c5, by rw [(fr 9 (fun z => by unfold PaC at z; omega)).1]; exact c6, u1, TxC_fr c8 fr (fun z => by unfold PaC at z; omega) (fun z => by unfold PaC at z; omega), Tl_fr c9 fr (fun b z => by unfold PaC at z; omega), NtC_fr c10 fr (fun b z => by unfold PaC at z; omega), KpC_fr c11 fr (fun b z => by unfold PaC at z; omega)⟩, ⟨p1, ?_, ?_, fun i x z => BlI_K (p4 i x z) KK, p5, p6, p7⟩⟩
  · cases u with
    | nil => exact BlI_K p2 KK
    | cons y u => exact BlI_K (p3 y (List.mem_cons_self ..)) KK
  · cases u with
    | nil => exact fun x z => absurd z (by simp [undT])
    | cons y u => exact fun x z => BlI_K (p3 x (List.mem_cons_of_mem _ z)) KK
theorem k_sign (hF : 10000 ≤ F) (h : CJ w T b r p K u t n L) (x : Int32)  : ∃ w1, P_X10_sign F w x = some (qSign n, w1) ∧ CJ w1 T b r p (K + 7200) u (if n ≤ 76 then sgT t n x else t) (if n ≤ 76 then n + 4 else n) L := by
  obtain ⟨N, c, f, kp, hC, hP⟩ := h
  obtain ⟨c1, c2, rfl, rfl, c5, c6, c7, c8, c9, c10, c11⟩ := id hC
  obtain ⟨p1, p2, p3, p4, p5, p6, p7⟩ := id hP
  have KK : K ≤ K + 7200 := by omega
  obtain ⟨w1, e1, fr, x1⟩ := v_X10_sign (F := F) (by omega) c8 x
  have tw := tw_fr c1 c2 ((fr 0 (fun z => by omega)).2.2 4) fr (fun b z => by omega)
  refine ⟨w1, e1, N, c, f, kp, ⟨tw.1, tw.2.1, tw.2.2, bC_fr fr (fun z => by omega) (fun z => by omega), by rw [(fr 6 (fun z => by omega)).1]; exact c5, by rw [(fr 9 (fun z => by omega)).1]; exact c6, PsC_fr c7 fr (fun b z => by unfold PaC; omega), x1, Tl_fr c9 fr (fun b z => by omega), NtC_fr c10 fr (fun b z => by omega), KpC_fr c11 fr (fun b z => by omega)⟩, ⟨p1, BlI_K p2 KK, fun x z => BlI_K (p3 x z) KK, fun i x z => BlI_K (p4 i x z) KK, p5, p6, ?_⟩⟩
  intro k hk
  by_cases c0 : n ≤ 76
  · rw [if_pos c0] at hk ⊢
    unfold sgT
    by_cases c1 : n ≤ k ∧ k < n + 4
    · rw [if_pos c1]; exact sgb_b x _
    · rw [if_neg c1]; exact p7 k (by omega)
  · rw [if_neg c0] at hk ⊢
    exact p7 k hk
theorem k_end (hF : 10000 ≤ F) (h : CJ w T b r p K u t n L) (x : Int32)  : ∃ w1, P_X10_end F w x = some ((qEnd n x).1, w1) ∧ CJ w1 T b r p (K + 7200) u t (qEnd n x).2 L := by
  obtain ⟨N, c, f, kp, hC, hP⟩ := h
  obtain ⟨c1, c2, rfl, rfl, c5, c6, c7, c8, c9, c10, c11⟩ := id hC
  obtain ⟨p1, p2, p3, p4, p5, p6, p7⟩ := id hP
  have KK : K ≤ K + 7200 := by omega
  obtain ⟨w1, e1, fr, x1⟩ := v_X10_end F c8 x
  have tw := tw_fr c1 c2 ((fr 0 (fun z => by omega)).2.2 4) fr (fun b z => by omega)
  refine ⟨w1, e1, N, c, f, kp, ⟨tw.1, tw.2.1, tw.2.2, bC_fr fr (fun z => by omega) (fun z => by omega), by rw [(fr 6 (fun z => by omega)).1]; exact c5, by rw [(fr 9 (fun z => by omega)).1]; exact c6, PsC_fr c7 fr (fun b z => by unfold PaC; omega), x1, Tl_fr c9 fr (fun b z => by omega), NtC_fr c10 fr (fun b z => by omega), KpC_fr c11 fr (fun b z => by omega)⟩, ⟨p1, BlI_K p2 KK, fun x z => BlI_K (p3 x z) KK, fun i x z => BlI_K (p4 i x z) KK, p5, p6, fun k hk => p7 k (Nat.lt_of_lt_of_le hk (qEnd_le c8.2.1 x))⟩⟩
theorem k_set (hF : 10000 ≤ F) (h : CJ w T b r p K u t n L) (x : Int32) (v : Int32)  : ∃ w1, P_X10_set F w x v = some ((qSet T x v).1, w1) ∧ CJ w1 (qSet T x v).2 b r p (K + 7200) u t n L := by
  obtain ⟨N, c, f, kp, hC, hP⟩ := h
  obtain ⟨c1, c2, rfl, rfl, c5, c6, c7, c8, c9, c10, c11⟩ := id hC
  obtain ⟨p1, p2, p3, p4, p5, p6, p7⟩ := id hP
  have KK : K ≤ K + 7200 := by omega
  obtain ⟨w1, e1, fr, s1, s2⟩ := v_X10_set F c1 x v
  have eR := set_R F w x v _ e1
  have sp : spC w1 := by
    unfold spC gR
    have eR : w1.2.2 = w.2.2 := eR
    rw [eR]; exact c2
  refine ⟨w1, e1, N, c, f, kp, ⟨s1, sp, s2, bC_fr fr (fun z => by omega) (fun z => by omega), by rw [(fr 6 (fun z => by omega)).1]; exact c5, by rw [(fr 9 (fun z => by omega)).1]; exact c6, PsC_fr c7 fr (fun b z => by unfold PaC; omega), TxC_fr c8 fr (fun z => by omega) (fun z => by omega), Tl_fr c9 fr (fun b z => by omega), NtC_fr c10 fr (fun b z => by omega), KpC_fr c11 fr (fun b z => by omega)⟩, ⟨okTw_q p1 x v, BlI_K p2 KK, fun x z => BlI_K (p3 x z) KK, fun i x z => BlI_K (p4 i x z) KK, p5, p6, p7⟩⟩
theorem k_sheet (hF : 10000 ≤ F) (h : CJ w T b r p K u t n L) (x : Int32) (y : Int32) (z1 : Int32) (v : Int32)  : ∃ w1, P_X10_sheet F w x y z1 v = some ((qSheet r b x y z1 v).1, w1) ∧ CJ w1 T (qSheet r b x y z1 v).2 r p (K + 7200) u t n L := by
  obtain ⟨N, c, f, kp, hC, hP⟩ := h
  obtain ⟨c1, c2, rfl, rfl, c5, c6, c7, c8, c9, c10, c11⟩ := id hC
  obtain ⟨p1, p2, p3, p4, p5, p6, p7⟩ := id hP
  have KK : K ≤ K + 7200 := by omega
  obtain ⟨w1, e1, fr, b1⟩ := v_X10_sheet (F := F) (by omega) p1.1 c5 x y z1 v
  have tw := tw_fr c1 c2 ((fr 0 (fun z => by omega)).2.2 4) fr (fun b z => by omega)
  refine ⟨w1, e1, N, c, f, kp, ⟨tw.1, tw.2.1, tw.2.2, b1, by rw [(fr 6 (fun z => by omega)).1]; exact c5, by rw [(fr 9 (fun z => by omega)).1]; exact c6, PsC_fr c7 fr (fun b z => by unfold PaC; omega), TxC_fr c8 fr (fun z => by omega) (fun z => by omega), Tl_fr c9 fr (fun b z => by omega), NtC_fr c10 fr (fun b z => by omega), KpC_fr c11 fr (fun b z => by omega)⟩, ⟨p1, BlI_K (BlI_sh p2 x y z1 v) KK, fun x z => BlI_K (p3 x z) KK, fun i x z => BlI_K (p4 i x z) KK, p5, p6, p7⟩⟩
theorem k_ringers (hF : 10000 ≤ F) (h : CJ w T b r p K u t n L)   : ∃ w1, P_X10_ringers F w  = some (qEn t n r, w1) ∧ CJ w1 (addT T 0 r (lnE t n r) (fsP t n) (scP t n)) b (r + lnE t n r) p (K + 7200) (if lnE t n r = 0 then u else []) t 0 L := by
  obtain ⟨N, c, f, kp, hC, hP⟩ := h
  obtain ⟨c1, c2, rfl, rfl, c5, c6, c7, c8, c9, c10, c11⟩ := id hC
  obtain ⟨p1, p2, p3, p4, p5, p6, p7⟩ := id hP
  have KK : K ≤ K + 7200 := by omega
  have l8 := ln_8 (t := t) c8.2.1 p1.1
  obtain ⟨w1, e0, fr, tw1, tw2, r1, u1, k1, x1⟩ := v_X10_enrol (F := F) (by omega) (a := 6) (.inl rfl) c1 p1.1 c5 c7 c11 c8
  have e1 : P_X10_ringers F w = some (qEn t n r, w1) := by
    unfold P_X10_ringers
    rw [bnd_r e0]
  have eR := enrol_R (F := F) (by omega) (.inl rfl) p1.1 c5 c8 e0
  have fR5 : gR w1 5 2 = gR w 5 2 := (fr 5 (fun z => by unfold EnF at z; omega)).2.2 2
  have sp : spC w1 := ⟨by rw [eR]; exact c2.1, by rw [eR, fR5]; exact c2.2⟩
  refine ⟨w1, e1, N, c, f, _, ⟨tw1, sp, tw2, bC_fr fr (fun z => by unfold EnF at z; omega) (fun z => by unfold EnF at z; omega), r1, by rw [(fr 9 (fun z => by unfold EnF at z; omega)).1]; exact c6, u1, x1, Tl_fr c9 fr (fun b z => by unfold EnF at z; omega), NtC_fr c10 fr (fun b z => by unfold EnF at z; omega), k1⟩, ⟨okTw_addR p1 l8 (fun i => val_9 t n _), BlI_K (BlI_r p2 (Nat.le_add_right _ _) (Nat.le_refl _)) KK, ?_, ?_, p5, p6, fun k hk => absurd hk (Nat.not_lt_zero _)⟩⟩
  · by_cases l0 : lnE t n r = 0
    · rw [if_pos l0]; exact fun x z => BlI_K (BlI_r (p3 x z) (Nat.le_add_right _ _) (Nat.le_refl _)) KK
    · rw [if_neg l0]; exact fun x z => absurd z (by simp)
  · by_cases l0 : lnE t n r = 0
    · rw [if_pos l0]; exact fun i x z => BlI_K (BlI_r (p4 i x z) (Nat.le_add_right _ _) (Nat.le_refl _)) KK
    · rw [if_neg l0]; exact fun i x z => absurd z (by unfold kpN; simp)
theorem k_town (hF : 10000 ≤ F) (h : CJ w T b r p K u t n L)   : ∃ w1, P_X10_town F w  = some (qEn t n p, w1) ∧ CJ w1 (addT T 2 p (lnE t n p) (fsP t n) (scP t n)) b r (p + lnE t n p) (K + 7200) (if lnE t n p = 0 then u else []) t 0 L := by
  obtain ⟨N, c, f, kp, hC, hP⟩ := h
  obtain ⟨c1, c2, rfl, rfl, c5, c6, c7, c8, c9, c10, c11⟩ := id hC
  obtain ⟨p1, p2, p3, p4, p5, p6, p7⟩ := id hP
  have KK : K ≤ K + 7200 := by omega
  have l8 := ln_8 (t := t) c8.2.1 p1.2.1
  obtain ⟨w1, e0, fr, tw1, tw2, r1, u1, k1, x1⟩ := v_X10_enrol (F := F) (by omega) (a := 9) (.inr rfl) c1 p1.2.1 c6 c7 c11 c8
  have e1 : P_X10_town F w = some (qEn t n p, w1) := by
    unfold P_X10_town
    rw [bnd_r e0]
  have eR := enrol_R (F := F) (by omega) (.inr rfl) p1.2.1 c6 c8 e0
  have fR5 : gR w1 5 2 = gR w 5 2 := (fr 5 (fun z => by unfold EnF at z; omega)).2.2 2
  have sp : spC w1 := ⟨by rw [eR]; exact c2.1, by rw [eR, fR5]; exact c2.2⟩
  refine ⟨w1, e1, N, c, f, _, ⟨tw1, sp, tw2, bC_fr fr (fun z => by unfold EnF at z; omega) (fun z => by unfold EnF at z; omega), by rw [(fr 6 (fun z => by unfold EnF at z; omega)).1]; exact c5, r1, u1, x1, Tl_fr c9 fr (fun b z => by unfold EnF at z; omega), NtC_fr c10 fr (fun b z => by unfold EnF at z; omega), k1⟩, ⟨okTw_addP p1 l8 (fun i => val_9 t n _), BlI_K (BlI_r p2 (Nat.le_refl _) (Nat.le_add_right _ _)) KK, ?_, ?_, p5, p6, fun k hk => absurd hk (Nat.not_lt_zero _)⟩⟩
  · by_cases l0 : lnE t n p = 0
    · rw [if_pos l0]; exact fun x z => BlI_K (BlI_r (p3 x z) (Nat.le_refl _) (Nat.le_add_right _ _)) KK
    · rw [if_neg l0]; exact fun x z => absurd z (by simp)
  · by_cases l0 : lnE t n p = 0
    · rw [if_pos l0]; exact fun i x z => BlI_K (BlI_r (p4 i x z) (Nat.le_refl _) (Nat.le_add_right _ _)) KK
    · rw [if_neg l0]; exact fun i x z => absurd z (by unfold kpN; simp)
theorem k_ringer (hF : 10000 ≤ F) (h : CJ w T b r p K u t n L) (x : Int32) (y : Int32)  : ∃ w1, P_X10_ringer F w x y = some (qRg T b r x y, w1) ∧ CJ w1 T b r p (K + 7200) u t n L := by
  obtain ⟨N, c, f, kp, hC, hP⟩ := h
  obtain ⟨c1, c2, rfl, rfl, c5, c6, c7, c8, c9, c10, c11⟩ := id hC
  obtain ⟨p1, p2, p3, p4, p5, p6, p7⟩ := id hP
  have KK : K ≤ K + 7200 := by omega
  obtain ⟨w1, e1, fr⟩ := v_X10_ringer (F := F) (by omega) c1 p1.1 c5 x y
  have tw := tw_fr c1 c2 ((fr 0 (fun z => by unfold Scr at z; omega)).2.2 4) fr (fun b z => by unfold Scr at z; omega)
  refine ⟨w1, e1, N, c, f, kp, ⟨tw.1, tw.2.1, tw.2.2, bC_fr fr (fun z => by unfold Scr at z; omega) (fun z => by unfold Scr at z; omega), by rw [(fr 6 (fun z => by unfold Scr at z; omega)).1]; exact c5, by rw [(fr 9 (fun z => by unfold Scr at z; omega)).1]; exact c6, PsC_fr c7 fr (fun b z => by unfold Scr at z; unfold PaC; omega), TxC_fr c8 fr (fun z => by unfold Scr at z; omega) (fun z => by unfold Scr at z; omega), Tl_fr c9 fr (fun b z => by unfold Scr at z; omega), NtC_fr c10 fr (fun b z => by unfold Scr at z; omega), KpC_fr c11 fr (fun b z => by unfold Scr at z; omega)⟩, ⟨p1, BlI_K p2 KK, fun x z => BlI_K (p3 x z) KK, fun i x z => BlI_K (p4 i x z) KK, p5, p6, p7⟩⟩
theorem k_person (h : CJ w T b r p K u t n L) (x y : Int32) : P_X10_person F w x y = some (qPe T b p x y, w) := by
  obtain ⟨N, c, f, kp, hC, hP⟩ := h
  obtain ⟨c1, c2, rfl, rfl, c5, c6, c7, c8, c9, c10, c11⟩ := id hC
  exact v_X10_person F hP.1.2.1 c6 x y
theorem k_row (h : CJ w T b r p K u t n L) (x : Int32) : P_X10_row F w x = some (qRow L x, w) := by
  obtain ⟨N, c, f, kp, hC, hP⟩ := h
  exact v_X10_row F hP.2.2.2.2.2.1 hC.2.2.2.2.2.2.2.2.1 x
theorem k_count (h : CJ w T b r p K u t n L) (x : Int32) : ∃ c, P_X10_count F w x = some (qCount r p b T c u.length L.length n x, w) := by
  obtain ⟨N, c, f, kp, hC, hP⟩ := h
  obtain ⟨c1, c2, rfl, rfl, c5, c6, c7, c8, c9, c10, c11⟩ := id hC
  obtain ⟨s, s1, s2, s3, s4, -⟩ := c7
  exact ⟨c, v_X10_count F c5 c6 c10.1 s4 c9.1 c8.1 x⟩
theorem k_loud (hF : 10000 ≤ F) (h : CJ w T b r p K u t n L) : ∃ w1, P_X10_loud F w = some (loudT T b (b 8), w1) ∧ CJ w1 T b r p K u t n L := by
  obtain ⟨N, c, f, kp, hC, hP⟩ := h
  have e := CI_Q hC (v_X10_loud (F := F) (by omega) (St_of hC hP))
  obtain ⟨w1, e1, fr, g⟩ := e
  obtain ⟨c1, c2, c3, c4, -⟩ := id hC
  refine ⟨w1, by rw [e1, c3, c4], N, c, f, kp, g, hP⟩
end KCALLS
