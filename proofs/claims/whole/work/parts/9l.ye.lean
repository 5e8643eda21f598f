-- ===== each question: both answer alike =====
theorem LK_best (T : Tw) (b : Bl) (r aim : Nat) (x y : Int32) : LK (qBest T b r aim x y) := by
  unfold qBest
  refine LK_r (fun h1 h3 => LK_r (fun _ _ => ?_))
  split
  · exact LK_n _
  · refine LK_s _ _ ?_
    rw [tlz_len]
    obtain ⟨m, m1, m2, rfl⟩ := rng h1 h3 (A := 1) (B := 4)
    rw [nI_clamp (by omega)]; omega
section QU
variable {F : Nat} {w : Wd} {q : Nat}
theorem t2_loud (hF : 10000 ≤ F) (h : Inv w q) (hq : q ≤ 600) : Two (P_X10_loud F w) (fun w1 => P_X11_loud F w1) q := by
  obtain ⟨r, p, N, u, t, n, L, c, f, kp, hC, hM, hP⟩ := Inv_e h
  have h2 : 2000 ≤ F := by omega
  refine two_ask hC hM hP (v_X10_loud (F := F) h2 (St_of hC hP)) (fun w1 m => v_X11_loud (F := F) h2 (MG_of m hP)) ?_
  exact LK_n _
theorem t2_lasts (hF : 10000 ≤ F) (h : Inv w q) (hq : q ≤ 600) : Two (P_X10_lasts F w) (fun w1 => P_X11_lasts F w1) q := by
  obtain ⟨r, p, N, u, t, n, L, c, f, kp, hC, hM, hP⟩ := Inv_e h
  have h2 : 2000 ≤ F := by omega
  refine two_ask hC hM hP (v_X10_lasts (F := F) h2 (St_of hC hP)) (fun w1 m => v_X11_lasts (F := F) h2 (MG_of m hP)) ?_
  unfold qLasts; exact LK_i (LK_s _ _ (Nat.le_of_ble_eq_true rfl)) (LK_n _)
theorem t2_hush (hF : 10000 ≤ F) (h : Inv w q) (hq : q ≤ 600) : Two (P_X10_hush F w) (fun w1 => P_X11_hush F w1) q := by
  obtain ⟨r, p, N, u, t, n, L, c, f, kp, hC, hM, hP⟩ := Inv_e h
  have h2 : 2000 ≤ F := by omega
  refine two_ask hC hM hP (v_X10_hush (F := F) h2 (St_of hC hP)) (fun w1 m => v_X11_hush (F := F) h2 (MG_of m hP)) ?_
  unfold qHush; exact LK_i (LK_n _) (LK_s _ _ (Nat.le_of_ble_eq_true rfl))
theorem t2_team (hF : 10000 ≤ F) (h : Inv w q) (hq : q ≤ 600) (x : Int32) : Two (P_X10_team F w x) (fun w1 => P_X11_team F w1 x) q := by
  obtain ⟨r, p, N, u, t, n, L, c, f, kp, hC, hM, hP⟩ := Inv_e h
  have h2 : 2000 ≤ F := by omega
  refine two_ask hC hM hP (v_X10_team (F := F) h2 (St_of hC hP) x) (fun w1 m => v_X11_team (F := F) h2 (MG_of m hP) x) ?_
  unfold qTeam; exact LK_i (LK_n _) (LK_i (LK_i (LK_i (LK_i (LK_n _) (LK_s _ _ (Nat.le_of_ble_eq_true rfl))) (LK_s _ _ (Nat.le_of_ble_eq_true rfl))) (LK_s _ _ (Nat.le_of_ble_eq_true rfl))) (LK_n _))
theorem t2_strongest (hF : 10000 ≤ F) (h : Inv w q) (hq : q ≤ 600) (x : Int32) : Two (P_X10_strongest F w x) (fun w1 => P_X11_strongest F w1 x) q := by
  obtain ⟨r, p, N, u, t, n, L, c, f, kp, hC, hM, hP⟩ := Inv_e h
  have h2 : 2000 ≤ F := by omega
  refine two_ask hC hM hP (v_X10_strongest (F := F) h2 (St_of hC hP) hP.1.1 hC.2.2.2.2.1 x) (fun w1 m => v_X11_strongest (F := F) h2 (MG_of m hP) x) ?_
  unfold qStrong; refine LK_r (fun _ _ => ?_); split
  · exact LK_n _
  · exact LK_s _ _ (Nat.le_of_ble_eq_true rfl)
theorem t2_silence (hF : 10000 ≤ F) (h : Inv w q) (hq : q ≤ 600) (x : Int32) : Two (P_X10_silence F w x) (fun w1 => P_X11_silence F w1 x) q := by
  obtain ⟨r, p, N, u, t, n, L, c, f, kp, hC, hM, hP⟩ := Inv_e h
  have h2 : 2000 ≤ F := by omega
  refine two_ask hC hM hP (v_X10_silence (F := F) h2 (St_of hC hP) x) (fun w1 m => v_X11_silence (F := F) h2 (MG_of m hP) x) ?_
  unfold qSilence; exact LK_r (fun _ _ => (LK_s _ _ (Nat.le_of_ble_eq_true rfl)))
theorem t2_crowd (hF : 10000 ≤ F) (h : Inv w q) (hq : q ≤ 600) (x : Int32) : Two (P_X10_crowd F w x) (fun w1 => P_X11_crowd F w1 x) q := by
  obtain ⟨r, p, N, u, t, n, L, c, f, kp, hC, hM, hP⟩ := Inv_e h
  have h2 : 2000 ≤ F := by omega
  refine two_ask hC hM hP (v_X10_crowd (F := F) h2 (St_of hC hP) x) (fun w1 m => v_X11_crowd (F := F) h2 (MG_of m hP) x) ?_
  unfold qCrowd; exact LK_r (fun _ _ => (LK_s _ _ (Nat.le_of_ble_eq_true rfl)))
theorem t2_swap (hF : 10000 ≤ F) (h : Inv w q) (hq : q ≤ 600) : Two (P_X10_swap F w) (fun w1 => P_X11_swap F w1) q := by
  obtain ⟨r, p, N, u, t, n, L, c, f, kp, hC, hM, hP⟩ := Inv_e h
  have h2 : 2000 ≤ F := by omega
  refine two_ask hC hM hP (v_X10_swap (F := F) h2 (St_of hC hP) hP.1.1 hC.2.2.2.2.1) (fun w1 m => v_X11_swap (F := F) h2 (MG_of m hP) (okRq_p hP.2.1.2.1)) ?_
  unfold qSwap; split
  · exact LK_n _
  · exact LK_s _ _ (Nat.le_of_ble_eq_true rfl)
theorem t2_ready (hF : 10000 ≤ F) (h : Inv w q) (hq : q ≤ 600) (x y : Int32) : Two (P_X10_ready F w x y) (fun w1 => P_X11_ready F w1 x y) q := by
  obtain ⟨r, p, N, u, t, n, L, c, f, kp, hC, hM, hP⟩ := Inv_e h
  have h2 : 2000 ≤ F := by omega
  refine two_ask hC hM hP (v_X10_ready (F := F) h2 (St_of hC hP) hP.1.1 hC.2.2.2.2.1 x y) (fun w1 m => v_X11_ready (F := F) h2 (MG_of m hP) (okRq_p hP.2.1.2.1) x y) ?_
  unfold qReady; refine LK_i (LK_n _) (LK_i (LK_n _) (LK_r (fun _ _ => ?_))); split
  · exact LK_s _ _ (Nat.le_of_ble_eq_true rfl)
  · exact LK_n _
theorem t2_rota (hF : 10000 ≤ F) (h : Inv w q) (hq : q ≤ 600) (x y : Int32) : Two (P_X10_rota F w x y) (fun w1 => P_X11_rota F w1 x y) q := by
  obtain ⟨r, p, N, u, t, n, L, c, f, kp, hC, hM, hP⟩ := Inv_e h
  have h2 : 2000 ≤ F := by omega
  refine two_ask hC hM hP (v_X10_rota (F := F) hF (St_of hC hP) hP.1 x y) (fun w1 m => v_X11_rota (F := F) h2 (MG_of m hP) x y) ?_
  exact LK_best _ _ _ _ _ _
theorem t2_cheapest (hF : 10000 ≤ F) (h : Inv w q) (hq : q ≤ 600) (x y : Int32) : Two (P_X10_cheapest F w x y) (fun w1 => P_X11_cheapest F w1 x y) q := by
  obtain ⟨r, p, N, u, t, n, L, c, f, kp, hC, hM, hP⟩ := Inv_e h
  have h2 : 2000 ≤ F := by omega
  refine two_ask hC hM hP (v_X10_cheapest (F := F) hF (St_of hC hP) hP.1 x y) (fun w1 m => v_X11_cheapest (F := F) h2 (MG_of m hP) x y) ?_
  exact LK_best _ _ _ _ _ _
theorem t2_longest (hF : 10000 ≤ F) (h : Inv w q) (hq : q ≤ 600) (x : Int32) : Two (P_X10_longest F w x) (fun w1 => P_X11_longest F w1 x) q := by
  obtain ⟨r, p, N, u, t, n, L, c, f, kp, hC, hM, hP⟩ := Inv_e h
  have h2 : 2000 ≤ F := by omega
  refine two_ask hC hM hP (v_X10_longest (F := F) hF (St_of hC hP) hP.1 x) (fun w1 m => v_X11_longest (F := F) h2 (MG_of m hP) x) ?_
  unfold qLongest; refine LK_r (fun h1 h3 => ?_); split
  · refine LK_s _ _ ?_
    rw [tlz_len]
    obtain ⟨m, m1, m2, rfl⟩ := rng h1 h3 (A := 1) (B := 3)
    rw [nI_clamp (by omega)]; omega
  · exact LK_n _
theorem t2_change (hF : 10000 ≤ F) (h : Inv w q) (hq : q ≤ 600) (x : Int32) : Two (P_X10_change F w x) (fun w1 => P_X11_change F w1 x) q := by
  obtain ⟨r, p, N, u, t, n, L, c, f, kp, hC, hM, hP⟩ := Inv_e h
  have h2 : 2000 ≤ F := by omega
  obtain ⟨s, s1, s2⟩ := hP.2.1.2.2.2.2
  have h29 : s < 2 ^ 29 := Nat.lt_of_le_of_lt s1 (by have : (2 : Nat) ^ 29 = 536870912 := by decide
                                                     omega)
  refine two_ask hC hM hP (v_X10_change (F := F) h2 (St_of hC hP) x) (fun w1 m => v_X11_change (F := F) h2 (MG_of m hP) h29 s2 x) ?_
  unfold qChange; refine LK_r (fun _ _ => ?_); split
  · exact LK_n _
  · exact LK_n _
theorem t2_doubts (hF : 10000 ≤ F) (h : Inv w q) (hq : q ≤ 600) (x : Int32) : Two (P_X10_doubts F w x) (fun w1 => P_X11_doubts F w1 x) q := by
  obtain ⟨r, p, N, u, t, n, L, c, f, kp, hC, hM, hP⟩ := Inv_e h
  have h2 : 2000 ≤ F := by omega
  refine two_ask hC hM hP (v_X10_doubts (F := F) h2 (w := w) x) (fun w1 m => v_X11_doubts (F := F) h2 (MG_of m hP) hP.2.1.2.2.2.1 x) ?_
  unfold qDoubts; exact LK_r (fun _ _ => (LK_s _ _ (Nat.le_of_ble_eq_true rfl)))
theorem t2_frees (hF : 10000 ≤ F) (h : Inv w q) (hq : q ≤ 600) : Two (P_X10_frees F w) (fun w1 => P_X11_frees F w1) q := by
  obtain ⟨r, p, N, u, t, n, L, c, f, kp, hC, hM, hP⟩ := Inv_e h
  have h2 : 2000 ≤ F := by omega
  refine two_ask hC hM hP (v_X10_frees (F := F) h2 hP.1.2.1 hC.2.2.2.2.2.1) (fun w1 m => v_X11_frees (F := F) h2 (MG_of m hP) hP.2.1.2.2.2.1) ?_
  unfold qFrees; split
  · exact LK_n _
  · exact LK_n _
theorem t2_persuade (hF : 10000 ≤ F) (h : Inv w q) (hq : q ≤ 600) : Two (P_X10_persuade F w) (fun w1 => P_X11_persuade F w1) q := by
  obtain ⟨r, p, N, u, t, n, L, c, f, kp, hC, hM, hP⟩ := Inv_e h
  have h2 : 2000 ≤ F := by omega
  refine two_ask hC hM hP (v_X10_persuade (F := F) h2 hP.1.2.1 hC.2.2.2.2.2.1) (fun w1 m => v_X11_persuade (F := F) h2 (MG_of m hP) hP.2.1.2.2.2.1) ?_
  unfold qPersuade; exact (LK_s _ _ (Nat.le_of_ble_eq_true rfl))
theorem t2_firm (hF : 10000 ≤ F) (h : Inv w q) (hq : q ≤ 600) : Two (P_X10_firm F w) (fun w1 => P_X11_firm F w1) q := by
  obtain ⟨r, p, N, u, t, n, L, c, f, kp, hC, hM, hP⟩ := Inv_e h
  have h2 : 2000 ≤ F := by omega
  refine two_ask hC hM hP (v_X10_firm (F := F) h2 hP.1.2.1 hC.2.2.2.2.2.1) (fun w1 m => v_X11_firm (F := F) h2 (MG_of m hP)) ?_
  unfold qFirm; exact (LK_s _ _ (Nat.le_of_ble_eq_true rfl))
theorem t2_frozen (hF : 10000 ≤ F) (h : Inv w q) (hq : q ≤ 600) (x : Int32) : Two (P_X10_frozen F w x) (fun w1 => P_X11_frozen F w1 x) q := by
  obtain ⟨r, p, N, u, t, n, L, c, f, kp, hC, hM, hP⟩ := Inv_e h
  have h2 : 2000 ≤ F := by omega
  refine two_ask hC hM hP (v_X10_frozen (F := F) h2 (St_of hC hP) x) (fun w1 m => v_X11_frozen (F := F) h2 (MG_of m hP) x) ?_
  unfold qFrozen; exact LK_r (fun _ _ => (LK_s _ _ (Nat.le_of_ble_eq_true rfl)))
theorem t2_heaviest (hF : 10000 ≤ F) (h : Inv w q) (hq : q ≤ 600) (x : Int32) : Two (P_X10_heaviest F w x) (fun w1 => P_X11_heaviest F w1 x) q := by
  obtain ⟨r, p, N, u, t, n, L, c, f, kp, hC, hM, hP⟩ := Inv_e h
  have h2 : 2000 ≤ F := by omega
  refine two_ask hC hM hP (v_X10_heaviest (F := F) h2 (St_of hC hP) x) (fun w1 m => v_X11_heaviest (F := F) h2 (MG_of m hP) (okRq_p hP.2.1.2.1) x) ?_
  unfold qHeaviest; refine LK_r (fun _ _ => ?_); split
  · exact LK_n _
  · exact LK_n _
theorem t2_rows (hF : 10000 ≤ F) (h : Inv w q) (hq : q ≤ 600) : Two (P_X10_rows F w) (fun w1 => P_X11_rows F w1) q := by
  obtain ⟨r, p, N, u, t, n, L, c, f, kp, hC, hM, hP⟩ := Inv_e h
  have h2 : 2000 ≤ F := by omega
  refine two_ask hC hM hP (v_X10_rows (F := F) h2 (St_of hC hP) hP.1.1 hC.2.2.2.2.1 hC.2.2.2.2.2.2.2.2.2.1) (fun w1 m => v_X11_rows (F := F) h2 (MG_of m hP) m.2.2.2.2.2.1 hP.2.2.2.2.1) ?_
  unfold qRows; refine LK_s _ _ ?_; split
  · exact Nat.zero_le _
  · rw [rwL_len]; exact Nat.le_refl _
theorem t2_rang (hF : 10000 ≤ F) (h : Inv w q) (hq : q ≤ 600) (x : Int32) : Two (P_X10_rang F w x) (fun w1 => P_X11_rang F w1 x) q := by
  obtain ⟨r, p, N, u, t, n, L, c, f, kp, hC, hM, hP⟩ := Inv_e h
  have h2 : 2000 ≤ F := by omega
  refine two_ask hC hM hP (v_X10_rang (F := F) h2 (St_of hC hP) hP.1.1 hC.2.2.2.2.1 hC.2.2.2.2.2.2.2.2.2.1 x) (fun w1 m => v_X11_rang (F := F) h2 (MG_of m hP) m.2.2.2.2.2.1 hP.2.2.2.2.1 x) ?_
  unfold qRang; exact LK_r (fun _ _ => (LK_s _ _ (Nat.le_of_ble_eq_true rfl)))
theorem t2_ask (hF : 10000 ≤ F) (h : Inv w q) (hq : q ≤ 600) : Two (P_X10_ask F w) (fun w1 => P_X11_ask F w1) q := by
  obtain ⟨r, p, N, u, t, n, L, c, f, kp, hC, hM, hP⟩ := Inv_e h
  have h2 : 2000 ≤ F := by omega
  refine two_ask hC hM hP (v_X10_ask (F := F) h2 (St_of hC hP) hP.1.1 hC.2.2.2.2.1 hC.2.2.2.2.2.2.2.2.2.1) (fun w1 m => v_X11_ask (F := F) h2 (MG_of m hP) m.2.2.2.2.2.1 hP.2.2.2.2.1) ?_
  unfold qAsk; split
  · exact LK_n _
  · exact LK_s _ _ (Nat.le_of_ble_eq_true rfl)
theorem t2_sick (hF : 10000 ≤ F) (h : Inv w q) (hq : q ≤ 600) (x : Int32) : Two (P_X10_sick F w x) (fun w1 => P_X11_sick F w1 x) q := by
  obtain ⟨r, p, N, u, t, n, L, c, f, kp, hC, hM, hP⟩ := Inv_e h
  have h2 : 2000 ≤ F := by omega
  refine two_ask hC hM hP (v_X10_sick (F := F) h2 (St_of hC hP) x) (fun w1 m => v_X11_sick (F := F) h2 (MG_of m hP) x) ?_
  unfold qSick; exact LK_r (fun _ _ => (LK_s _ _ (Nat.le_of_ble_eq_true rfl)))
theorem t2_risk (hF : 10000 ≤ F) (h : Inv w q) (hq : q ≤ 600) (x : Int32) : Two (P_X10_risk F w x) (fun w1 => P_X11_risk F w1 x) q := by
  obtain ⟨r, p, N, u, t, n, L, c, f, kp, hC, hM, hP⟩ := Inv_e h
  have h2 : 2000 ≤ F := by omega
  refine two_ask hC hM hP (v_X10_risk (F := F) h2 (St_of hC hP) x) (fun w1 m => v_X11_risk (F := F) h2 (MG_of m hP) x) ?_
  unfold qRisk; refine LK_r (fun _ _ => ?_); split
  · exact LK_n _
  · exact LK_n _
theorem t2_settle (hF : 10000 ≤ F) (h : Inv w q) (hq : q ≤ 600) (x y : Int32) : Two (P_X10_settle F w x y) (fun w1 => P_X11_settle F w1 x y) q := by
  obtain ⟨r, p, N, u, t, n, L, c, f, kp, hC, hM, hP⟩ := Inv_e h
  have h2 : 2000 ≤ F := by omega
  refine two_ask hC hM hP (v_X10_settle (F := F) h2 (w := w) x y) (fun w1 m => v_X11_settle (F := F) h2 (w := w1) x y) ?_
  unfold qSettle; exact LK_r (fun _ _ => LK_r (fun _ _ => (LK_s _ _ (Nat.le_of_ble_eq_true rfl))))
theorem t2_strike (hF : 10000 ≤ F) (h : Inv w q) (hq : q ≤ 600) (x : Int32) : Two (P_X10_strike F w x) (fun w1 => P_X11_strike F w1 x) q := by
  obtain ⟨r, p, N, u, t, n, L, c, f, kp, hC, hM, hP⟩ := Inv_e h
  have h2 : 2000 ≤ F := by omega
  refine two_ask hC hM hP (v_X10_strike (F := F) h2 (w := w) x) (fun w1 m => v_X11_strike (F := F) h2 (w := w1) x) ?_
  unfold qStrike; refine LK_r (fun _ _ => LK_s _ _ ?_); unfold skL; split
  · exact Nat.zero_le _
  · exact (Nat.le_of_ble_eq_true rfl)
theorem t2_years (hF : 10000 ≤ F) (h : Inv w q) (hq : q ≤ 600) (x y : Int32) : Two (P_X10_years F w x y) (fun w1 => P_X11_years F w1 x y) q := by
  obtain ⟨r, p, N, u, t, n, L, c, f, kp, hC, hM, hP⟩ := Inv_e h
  have h2 : 2000 ≤ F := by omega
  refine two_ask hC hM hP (v_X10_years (F := F) h2 (St_of hC hP) hP.1.1 hC.2.2.2.2.1 hP.2.1.2.1 x y) (fun w1 m => v_X11_years (F := F) h2 (MG_of m hP) hP.2.1.2.1 x y) ?_
  unfold qYears; exact LK_r (fun _ _ => LK_i (LK_n _) (LK_s _ _ (Nat.le_of_ble_eq_true rfl)))
end QU
