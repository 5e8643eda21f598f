-- ===== the law's cases =====
/-- the script -/
abbrev lvL (S : Sx) (q b : Nat) : List (Nat × Value) := [(4, .int (nI (5 * q))), (3, rf S 119), (2, rf S 88), (1, rf S 0), (0, .ref b)]
def Kn (X : Cx) (S : Sx) (A0 : Nat → Prop) (kc kn b q : Nat) : Prop := ∀ (w2 : Wd) (kc2 kn2 : Nat), Inv w2 (q + 1) → kc2 ≤ kc + 1 → kn2 ≤ kn + 6 → VL X S A0 kc2 kn2 w2 1529 (lvL S q b) []
/-- where a case begins -/
def Cs (X : Cx) (S : Sx) (A0 : Nat → Prop) (kc kn : Nat) (w : Wd) (q b n F : Nat) (xs : Nat → Int32) : Prop := LOk X S A0 cL_law RL 8 room_1 ∧ Xscr X A0 b n xs ∧ Inv w q ∧ q ≤ 600 ∧ 10000 ≤ F ∧ inB (nI (5 * q) + 1) n = true ∧ inB (nI (5 * q) + 2) n = true ∧ inB (nI (5 * q) + 3) n = true ∧ inB (nI (5 * q) + 4) n = true ∧ kc + 1 ≤ room_1.cells ∧ kn + 6 ≤ room_1.slots
theorem Inv_mono {w : Wd} {q : Nat} (h : Inv w q) : Inv w (q + 1) := by
  obtain ⟨T, b, r, p, N, u, t, n, L, c, f, kp, h1, h2, h3⟩ := h
  exact ⟨T, b, r, p, N, u, t, n, L, c, f, kp, h1, MI_C h2 (Nat.le_succ _), PI_K h3 (Nat.mul_le_mul_left _ (Nat.le_succ _))⟩
section LAW
variable {X : Cx} {S : Sx} {A0 : Nat → Prop} {kc kn : Nat} {w : Wd} {q b n F : Nat} {xs : Nat → Int32}
set_option maxHeartbeats 4000000 in
theorem lw_c_0 (h : Cs X S A0 kc kn w q b n F xs) (hk : Kn X S A0 kc kn b q) : VL X S A0 kc kn w 248 (lvL S q b) [] := by
  obtain ⟨hX, hs, hI, hq, hF, c1, c2, c3, c4, hc, hn⟩ := h
  obtain ⟨v, w1, w2, e1, e2, hI2⟩ := t2_sign hF hI hq (xs (nI (5 * q) + 1).toNatClampNeg)
  have h0 : kc ≤ room_1.cells ∧ kn ≤ room_1.slots := ⟨Nat.le_of_succ_le hc, Nat.le_trans (Nat.le_add_right _ _) hn⟩
  refine VL_aload_n hX dL_law_248 3 rfl ?_
  refine VL_aload_n hX dL_law_249 4 rfl ?_
  refine VL_iload hX dL_law_250 0 rfl ?_
  refine VL_iconst (v := 1) hX dL_law_252 rfl ?_
  refine VL_iadd hX dL_law_253 ?_
  refine VL_sld hX hs c1 dL_law_254 ?_
  refine VL_callVi (As := [.int (xs (nI (5 * q) + 1).toNatClampNeg)]) (rest := []) hX mk_L_26 nk_X10_sign (fun l => c_X10_sign l S e1) tb_0 rfl ⟨rfl, rfl, Nat.le_of_ble_eq_true rfl, Nat.le_of_ble_eq_true rfl⟩ rfl rfl (Nat.le_of_ble_eq_true rfl) dL_law_255 h0 ?_
  refine VL_aload_n hX dL_law_258 2 rfl ?_
  refine VL_aload_n hX dL_law_259 4 rfl ?_
  refine VL_iload hX dL_law_260 0 rfl ?_
  refine VL_iconst (v := 1) hX dL_law_262 rfl ?_
  refine VL_iadd hX dL_law_263 ?_
  refine VL_sld hX hs c1 dL_law_264 ?_
  refine VL_callVi (As := [.int (xs (nI (5 * q) + 1).toNatClampNeg)]) (rest := [.int v]) hX mk_L_30 nk_X11_sign (fun l => c_X11_sign l S e2) tb_88 rfl ⟨rfl, rfl, Nat.le_of_ble_eq_true rfl, Nat.le_of_ble_eq_true rfl⟩ rfl rfl (Nat.le_of_ble_eq_true rfl) dL_law_265 h0 ?_
  exact VL_icmp_eq (tgt := 1529) hX dL_law_268 (by decide) (fun _ => hk _ _ _ hI2 (Nat.le_succ _) (Nat.le_add_right _ _)) (fun z => absurd rfl z)
set_option maxHeartbeats 4000000 in
theorem lw_c_1 (h : Cs X S A0 kc kn w q b n F xs) (hk : Kn X S A0 kc kn b q) : VL X S A0 kc kn w 273 (lvL S q b) [] := by
  obtain ⟨hX, hs, hI, hq, hF, c1, c2, c3, c4, hc, hn⟩ := h
  obtain ⟨v, w1, w2, e1, e2, hI2⟩ := t2_end hF hI hq (xs (nI (5 * q) + 1).toNatClampNeg)
  have h0 : kc ≤ room_1.cells ∧ kn ≤ room_1.slots := ⟨Nat.le_of_succ_le hc, Nat.le_trans (Nat.le_add_right _ _) hn⟩
  refine VL_aload_n hX dL_law_273 3 rfl ?_
  refine VL_aload_n hX dL_law_274 4 rfl ?_
  refine VL_iload hX dL_law_275 0 rfl ?_
  refine VL_iconst (v := 1) hX dL_law_277 rfl ?_
  refine VL_iadd hX dL_law_278 ?_
  refine VL_sld hX hs c1 dL_law_279 ?_
  refine VL_callVi (As := [.int (xs (nI (5 * q) + 1).toNatClampNeg)]) (rest := []) hX mk_L_31 nk_X10_end (fun l => c_X10_end l S e1) tb_0 rfl ⟨rfl, rfl, Nat.le_of_ble_eq_true rfl, Nat.le_of_ble_eq_true rfl⟩ rfl rfl (Nat.le_of_ble_eq_true rfl) dL_law_280 h0 ?_
  refine VL_aload_n hX dL_law_283 2 rfl ?_
  refine VL_aload_n hX dL_law_284 4 rfl ?_
  refine VL_iload hX dL_law_285 0 rfl ?_
  refine VL_iconst (v := 1) hX dL_law_287 rfl ?_
  refine VL_iadd hX dL_law_288 ?_
  refine VL_sld hX hs c1 dL_law_289 ?_
  refine VL_callVi (As := [.int (xs (nI (5 * q) + 1).toNatClampNeg)]) (rest := [.int v]) hX mk_L_35 nk_X11_end (fun l => c_X11_end l S e2) tb_88 rfl ⟨rfl, rfl, Nat.le_of_ble_eq_true rfl, Nat.le_of_ble_eq_true rfl⟩ rfl rfl (Nat.le_of_ble_eq_true rfl) dL_law_290 h0 ?_
  exact VL_icmp_eq (tgt := 1529) hX dL_law_293 (by decide) (fun _ => hk _ _ _ hI2 (Nat.le_succ _) (Nat.le_add_right _ _)) (fun z => absurd rfl z)
set_option maxHeartbeats 4000000 in
theorem lw_c_2 (h : Cs X S A0 kc kn w q b n F xs) (hk : Kn X S A0 kc kn b q) : VL X S A0 kc kn w 298 (lvL S q b) [] := by
  obtain ⟨hX, hs, hI, hq, hF, c1, c2, c3, c4, hc, hn⟩ := h
  obtain ⟨v, w1, w2, e1, e2, hI2⟩ := t2_ringers hF hI hq
  have h0 : kc ≤ room_1.cells ∧ kn ≤ room_1.slots := ⟨Nat.le_of_succ_le hc, Nat.le_trans (Nat.le_add_right _ _) hn⟩
  refine VL_aload_n hX dL_law_298 3 rfl ?_
  refine VL_callVi (As := []) (rest := []) hX mk_L_36 nk_X10_ringers (fun l => c_X10_ringers l S e1) tb_0 rfl ⟨rfl, rfl, Nat.le_of_ble_eq_true rfl, Nat.le_of_ble_eq_true rfl⟩ rfl rfl (Nat.le_of_ble_eq_true rfl) dL_law_299 h0 ?_
  refine VL_aload_n hX dL_law_302 2 rfl ?_
  refine VL_callVi (As := []) (rest := [.int v]) hX mk_L_40 nk_X11_ringers (fun l => c_X11_ringers l S e2) tb_88 rfl ⟨rfl, rfl, Nat.le_of_ble_eq_true rfl, Nat.le_of_ble_eq_true rfl⟩ rfl rfl (Nat.le_of_ble_eq_true rfl) dL_law_303 h0 ?_
  exact VL_icmp_eq (tgt := 1529) hX dL_law_306 (by decide) (fun _ => hk _ _ _ hI2 (Nat.le_succ _) (Nat.le_add_right _ _)) (fun z => absurd rfl z)
set_option maxHeartbeats 4000000 in
theorem lw_c_3 (h : Cs X S A0 kc kn w q b n F xs) (hk : Kn X S A0 kc kn b q) : VL X S A0 kc kn w 311 (lvL S q b) [] := by
  obtain ⟨hX, hs, hI, hq, hF, c1, c2, c3, c4, hc, hn⟩ := h
  obtain ⟨v, w1, w2, e1, e2, hI2⟩ := t2_town hF hI hq
  have h0 : kc ≤ room_1.cells ∧ kn ≤ room_1.slots := ⟨Nat.le_of_succ_le hc, Nat.le_trans (Nat.le_add_right _ _) hn⟩
  refine VL_aload_n hX dL_law_311 3 rfl ?_
  refine VL_callVi (As := []) (rest := []) hX mk_L_41 nk_X10_town (fun l => c_X10_town l S e1) tb_0 rfl ⟨rfl, rfl, Nat.le_of_ble_eq_true rfl, Nat.le_of_ble_eq_true rfl⟩ rfl rfl (Nat.le_of_ble_eq_true rfl) dL_law_312 h0 ?_
  refine VL_aload_n hX dL_law_315 2 rfl ?_
  refine VL_callVi (As := []) (rest := [.int v]) hX mk_L_44 nk_X11_town (fun l => c_X11_town l S e2) tb_88 rfl ⟨rfl, rfl, Nat.le_of_ble_eq_true rfl, Nat.le_of_ble_eq_true rfl⟩ rfl rfl (Nat.le_of_ble_eq_true rfl) dL_law_316 h0 ?_
  exact VL_icmp_eq (tgt := 1529) hX dL_law_319 (by decide) (fun _ => hk _ _ _ hI2 (Nat.le_succ _) (Nat.le_add_right _ _)) (fun z => absurd rfl z)
set_option maxHeartbeats 4000000 in
theorem lw_c_4 (h : Cs X S A0 kc kn w q b n F xs) (hk : Kn X S A0 kc kn b q) : VL X S A0 kc kn w 324 (lvL S q b) [] := by
  obtain ⟨hX, hs, hI, hq, hF, c1, c2, c3, c4, hc, hn⟩ := h
  obtain ⟨v, w1, w2, e1, e2, hI2⟩ := t2_rule hF hI hq
  have h0 : kc ≤ room_1.cells ∧ kn ≤ room_1.slots := ⟨Nat.le_of_succ_le hc, Nat.le_trans (Nat.le_add_right _ _) hn⟩
  refine VL_aload_n hX dL_law_324 3 rfl ?_
  refine VL_callVi (As := []) (rest := []) hX mk_L_45 nk_X10_rule (fun l => c_X10_rule l S e1) tb_0 rfl ⟨rfl, rfl, Nat.le_of_ble_eq_true rfl, Nat.le_of_ble_eq_true rfl⟩ rfl rfl (Nat.le_of_ble_eq_true rfl) dL_law_325 h0 ?_
  refine VL_aload_n hX dL_law_328 2 rfl ?_
  refine VL_callVi (As := []) (rest := [.int v]) hX mk_L_48 nk_X11_rule (fun l => c_X11_rule l S e2) tb_88 rfl ⟨rfl, rfl, Nat.le_of_ble_eq_true rfl, Nat.le_of_ble_eq_true rfl⟩ rfl rfl (Nat.le_of_ble_eq_true rfl) dL_law_329 h0 ?_
  exact VL_icmp_eq (tgt := 1529) hX dL_law_332 (by decide) (fun _ => hk _ _ _ hI2 (Nat.le_succ _) (Nat.le_add_right _ _)) (fun z => absurd rfl z)
set_option maxHeartbeats 4000000 in
theorem lw_c_5 (h : Cs X S A0 kc kn w q b n F xs) (hk : Kn X S A0 kc kn b q) : VL X S A0 kc kn w 337 (lvL S q b) [] := by
  obtain ⟨hX, hs, hI, hq, hF, c1, c2, c3, c4, hc, hn⟩ := h
  obtain ⟨o, w1, e1, hm⟩ := t2_ringer hF hI hq (xs (nI (5 * q) + 1).toNatClampNeg) (xs (nI (5 * q) + 2).toNatClampNeg)
  have h1 : kc + 1 ≤ room_1.cells ∧ kn + 6 ≤ room_1.slots := ⟨hc, hn⟩
  refine VL_aload_n hX dL_law_337 3 rfl ?_
  refine VL_aload_n hX dL_law_338 4 rfl ?_
  refine VL_iload hX dL_law_339 0 rfl ?_
  refine VL_iconst (v := 1) hX dL_law_341 rfl ?_
  refine VL_iadd hX dL_law_342 ?_
  refine VL_sld hX hs c1 dL_law_343 ?_
  refine VL_aload_n hX dL_law_344 4 rfl ?_
  refine VL_iload hX dL_law_345 0 rfl ?_
  refine VL_iconst (v := 2) hX dL_law_347 rfl ?_
  refine VL_iadd hX dL_law_348 ?_
  refine VL_sld hX hs c2 dL_law_349 ?_
  refine VL_aload_n hX dL_law_350 1 rfl ?_
  cases o with
  | none =>
    obtain ⟨v, w2, e2, hth, -, hI2, -⟩ := hm w1 Fr.rfl'
    refine VL_callW (v := 1) (w2 := w1) (As := [rf S 0, .int (xs (nI (5 * q) + 1).toNatClampNeg), .int (xs (nI (5 * q) + 2).toNatClampNeg), rf S 119]) (rest := []) hX mw_L_49 nk_L_ringer (fun l hl => c_L_ringer l hl S e1) ⟨rfl, rfl, Nat.le_of_ble_eq_true rfl, Nat.le_of_ble_eq_true rfl⟩ rfl rfl (Nat.le_of_ble_eq_true rfl) dL_law_351 h1 ?_
    refine VL_istore hX dL_law_354 (by decide) rfl ?_
    refine VL_aload_n hX dL_law_356 3 rfl ?_
    refine VL_aload_n hX dL_law_357 5 rfl ?_
    refine VL_iload hX dL_law_358 1 rfl ?_
    refine VL_iconst (v := 1) hX dL_law_360 rfl ?_
    refine VL_iadd hX dL_law_361 ?_
    refine VL_sld hX hs c1 dL_law_362 ?_
    refine VL_aload_n hX dL_law_363 5 rfl ?_
    refine VL_iload hX dL_law_364 1 rfl ?_
    refine VL_iconst (v := 2) hX dL_law_366 rfl ?_
    refine VL_iadd hX dL_law_367 ?_
    refine VL_sld hX hs c2 dL_law_368 ?_
    refine VL_callVi (As := [.int (xs (nI (5 * q) + 1).toNatClampNeg), .int (xs (nI (5 * q) + 2).toNatClampNeg)]) (rest := []) hX mk_L_54 nk_X11_ringer (fun l => c_X11_ringer l S e2) tb_88 rfl ⟨rfl, rfl, Nat.le_of_ble_eq_true rfl, Nat.le_of_ble_eq_true rfl⟩ rfl rfl (Nat.le_of_ble_eq_true rfl) dL_law_369 h1 ?_
    refine VL_istore hX dL_law_372 (by decide) rfl ?_
    refine VL_aload_n hX dL_law_374 4 rfl ?_
    refine VL_callVi (v := gI w2 88 0) (w2 := w2) (As := []) (rest := []) hX mk_L_55 nk_X11_thrown (fun l => c_X11_thrown (F := F) l S rfl) tb_88 rfl ⟨rfl, rfl, Nat.le_of_ble_eq_true rfl, Nat.le_of_ble_eq_true rfl⟩ rfl rfl (Nat.le_of_ble_eq_true rfl) dL_law_375 h1 ?_
    refine VL_iload hX dL_law_378 1 rfl ?_
    refine VL_icmp_eq (tgt := 385) hX dL_law_380 (by decide) (fun _ => ?_) (fun z => absurd hth z)
    refine VL_iload hX dL_law_385 1 rfl ?_
    refine VL_if_ne (tgt := 402) hX dL_law_387 (by decide) (fun _ => ?_) (fun z => absurd z (by decide))
    refine VL_goto (tgt := 1529) hX dL_law_402 (by decide) ?_
    refine VL_sub (lv' := lvL S q b) [2, 3, 4, 5, 6] rfl ?_
    exact hk _ _ _ hI2 (Nat.le_refl _) (Nat.le_refl _)
  | some z =>
    obtain ⟨v, w2, e2, hth, hz, hI2, hJ⟩ := hm (sJ w1 119 0 z.toInt64) Fr.ofJ
    have hv := hz z rfl
    have hj : gJ w2 119 0 = z.toInt64 := (hJ 0).trans (by rw [gJ_sJ]; simp)
    refine VL_callW (v := 0) (w2 := (sJ w1 119 0 z.toInt64)) (As := [rf S 0, .int (xs (nI (5 * q) + 1).toNatClampNeg), .int (xs (nI (5 * q) + 2).toNatClampNeg), rf S 119]) (rest := []) hX mw_L_49 nk_L_ringer (fun l hl => c_L_ringer l hl S e1) ⟨rfl, rfl, Nat.le_of_ble_eq_true rfl, Nat.le_of_ble_eq_true rfl⟩ rfl rfl (Nat.le_of_ble_eq_true rfl) dL_law_351 h1 ?_
    refine VL_istore hX dL_law_354 (by decide) rfl ?_
    refine VL_aload_n hX dL_law_356 3 rfl ?_
    refine VL_aload_n hX dL_law_357 5 rfl ?_
    refine VL_iload hX dL_law_358 1 rfl ?_
    refine VL_iconst (v := 1) hX dL_law_360 rfl ?_
    refine VL_iadd hX dL_law_361 ?_
    refine VL_sld hX hs c1 dL_law_362 ?_
    refine VL_aload_n hX dL_law_363 5 rfl ?_
    refine VL_iload hX dL_law_364 1 rfl ?_
    refine VL_iconst (v := 2) hX dL_law_366 rfl ?_
    refine VL_iadd hX dL_law_367 ?_
    refine VL_sld hX hs c2 dL_law_368 ?_
    refine VL_callVi (As := [.int (xs (nI (5 * q) + 1).toNatClampNeg), .int (xs (nI (5 * q) + 2).toNatClampNeg)]) (rest := []) hX mk_L_54 nk_X11_ringer (fun l => c_X11_ringer l S e2) tb_88 rfl ⟨rfl, rfl, Nat.le_of_ble_eq_true rfl, Nat.le_of_ble_eq_true rfl⟩ rfl rfl (Nat.le_of_ble_eq_true rfl) dL_law_369 h1 ?_
    refine VL_istore hX dL_law_372 (by decide) rfl ?_
    refine VL_aload_n hX dL_law_374 4 rfl ?_
    refine VL_callVi (v := gI w2 88 0) (w2 := w2) (As := []) (rest := []) hX mk_L_55 nk_X11_thrown (fun l => c_X11_thrown (F := F) l S rfl) tb_88 rfl ⟨rfl, rfl, Nat.le_of_ble_eq_true rfl, Nat.le_of_ble_eq_true rfl⟩ rfl rfl (Nat.le_of_ble_eq_true rfl) dL_law_375 h1 ?_
    refine VL_iload hX dL_law_378 1 rfl ?_
    refine VL_icmp_eq (tgt := 385) hX dL_law_380 (by decide) (fun _ => ?_) (fun z => absurd hth z)
    refine VL_iload hX dL_law_385 1 rfl ?_
    refine VL_if_ne (tgt := 402) hX dL_law_387 (by decide) (fun z => absurd rfl z) (fun _ => ?_)
    refine VL_aload_n hX dL_law_390 3 rfl ?_
    refine VL_iconst (v := 0) hX dL_law_391 rfl ?_
    refine VL_lald hX tb_119 (by decide) dL_law_392 ?_
    refine VL_iload hX dL_law_393 0 rfl ?_
    refine VL_i2l hX dL_law_395 ?_
    refine VL_lcmp hX dL_law_396 ?_
    refine VL_if_eq (tgt := 402) hX dL_law_397 (by decide) (fun _ => ?_) (fun y => absurd (show lg_cmp (gJ w2 119 0) v.toInt64 = 0 from by rw [hj, hv]; unfold lg_cmp; rw [if_neg (by simp), if_pos rfl]) y)
    refine VL_goto (tgt := 1529) hX dL_law_402 (by decide) ?_
    refine VL_sub (lv' := lvL S q b) [2, 3, 4, 5, 6] rfl ?_
    exact hk _ _ _ hI2 (Nat.le_refl _) (Nat.le_refl _)
set_option maxHeartbeats 4000000 in
theorem lw_c_6 (h : Cs X S A0 kc kn w q b n F xs) (hk : Kn X S A0 kc kn b q) : VL X S A0 kc kn w 405 (lvL S q b) [] := by
  obtain ⟨hX, hs, hI, hq, hF, c1, c2, c3, c4, hc, hn⟩ := h
  obtain ⟨o, w1, e1, hm⟩ := t2_person hF hI hq (xs (nI (5 * q) + 1).toNatClampNeg) (xs (nI (5 * q) + 2).toNatClampNeg)
  have h1 : kc + 1 ≤ room_1.cells ∧ kn + 6 ≤ room_1.slots := ⟨hc, hn⟩
  refine VL_aload_n hX dL_law_405 3 rfl ?_
  refine VL_aload_n hX dL_law_406 4 rfl ?_
  refine VL_iload hX dL_law_407 0 rfl ?_
  refine VL_iconst (v := 1) hX dL_law_409 rfl ?_
  refine VL_iadd hX dL_law_410 ?_
  refine VL_sld hX hs c1 dL_law_411 ?_
  refine VL_aload_n hX dL_law_412 4 rfl ?_
  refine VL_iload hX dL_law_413 0 rfl ?_
  refine VL_iconst (v := 2) hX dL_law_415 rfl ?_
  refine VL_iadd hX dL_law_416 ?_
  refine VL_sld hX hs c2 dL_law_417 ?_
  refine VL_aload_n hX dL_law_418 1 rfl ?_
  cases o with
  | none =>
    obtain ⟨v, w2, e2, hth, -, hI2, -⟩ := hm w1 Fr.rfl'
    refine VL_callW (v := 1) (w2 := w1) (As := [rf S 0, .int (xs (nI (5 * q) + 1).toNatClampNeg), .int (xs (nI (5 * q) + 2).toNatClampNeg), rf S 119]) (rest := []) hX mw_L_58 nk_L_person (fun l hl => c_L_person l hl S e1) ⟨rfl, rfl, Nat.le_of_ble_eq_true rfl, Nat.le_of_ble_eq_true rfl⟩ rfl rfl (Nat.le_of_ble_eq_true rfl) dL_law_419 h1 ?_
    refine VL_istore hX dL_law_422 (by decide) rfl ?_
    refine VL_aload_n hX dL_law_424 3 rfl ?_
    refine VL_aload_n hX dL_law_425 5 rfl ?_
    refine VL_iload hX dL_law_426 1 rfl ?_
    refine VL_iconst (v := 1) hX dL_law_428 rfl ?_
    refine VL_iadd hX dL_law_429 ?_
    refine VL_sld hX hs c1 dL_law_430 ?_
    refine VL_aload_n hX dL_law_431 5 rfl ?_
    refine VL_iload hX dL_law_432 1 rfl ?_
    refine VL_iconst (v := 2) hX dL_law_434 rfl ?_
    refine VL_iadd hX dL_law_435 ?_
    refine VL_sld hX hs c2 dL_law_436 ?_
    refine VL_callVi (As := [.int (xs (nI (5 * q) + 1).toNatClampNeg), .int (xs (nI (5 * q) + 2).toNatClampNeg)]) (rest := []) hX mk_L_60 nk_X11_person (fun l => c_X11_person l S e2) tb_88 rfl ⟨rfl, rfl, Nat.le_of_ble_eq_true rfl, Nat.le_of_ble_eq_true rfl⟩ rfl rfl (Nat.le_of_ble_eq_true rfl) dL_law_437 h1 ?_
    refine VL_istore hX dL_law_440 (by decide) rfl ?_
    refine VL_aload_n hX dL_law_442 4 rfl ?_
    refine VL_callVi (v := gI w2 88 0) (w2 := w2) (As := []) (rest := []) hX mk_L_55 nk_X11_thrown (fun l => c_X11_thrown (F := F) l S rfl) tb_88 rfl ⟨rfl, rfl, Nat.le_of_ble_eq_true rfl, Nat.le_of_ble_eq_true rfl⟩ rfl rfl (Nat.le_of_ble_eq_true rfl) dL_law_443 h1 ?_
    refine VL_iload hX dL_law_446 1 rfl ?_
    refine VL_icmp_eq (tgt := 453) hX dL_law_448 (by decide) (fun _ => ?_) (fun z => absurd hth z)
    refine VL_iload hX dL_law_453 1 rfl ?_
    refine VL_if_ne (tgt := 470) hX dL_law_455 (by decide) (fun _ => ?_) (fun z => absurd z (by decide))
    refine VL_goto (tgt := 1529) hX dL_law_470 (by decide) ?_
    refine VL_sub (lv' := lvL S q b) [2, 3, 4, 5, 6] rfl ?_
    exact hk _ _ _ hI2 (Nat.le_refl _) (Nat.le_refl _)
  | some z =>
    obtain ⟨v, w2, e2, hth, hz, hI2, hJ⟩ := hm (sJ w1 119 0 z.toInt64) Fr.ofJ
    have hv := hz z rfl
    have hj : gJ w2 119 0 = z.toInt64 := (hJ 0).trans (by rw [gJ_sJ]; simp)
    refine VL_callW (v := 0) (w2 := (sJ w1 119 0 z.toInt64)) (As := [rf S 0, .int (xs (nI (5 * q) + 1).toNatClampNeg), .int (xs (nI (5 * q) + 2).toNatClampNeg), rf S 119]) (rest := []) hX mw_L_58 nk_L_person (fun l hl => c_L_person l hl S e1) ⟨rfl, rfl, Nat.le_of_ble_eq_true rfl, Nat.le_of_ble_eq_true rfl⟩ rfl rfl (Nat.le_of_ble_eq_true rfl) dL_law_419 h1 ?_
    refine VL_istore hX dL_law_422 (by decide) rfl ?_
    refine VL_aload_n hX dL_law_424 3 rfl ?_
    refine VL_aload_n hX dL_law_425 5 rfl ?_
    refine VL_iload hX dL_law_426 1 rfl ?_
    refine VL_iconst (v := 1) hX dL_law_428 rfl ?_
    refine VL_iadd hX dL_law_429 ?_
    refine VL_sld hX hs c1 dL_law_430 ?_
    refine VL_aload_n hX dL_law_431 5 rfl ?_
    refine VL_iload hX dL_law_432 1 rfl ?_
    refine VL_iconst (v := 2) hX dL_law_434 rfl ?_
    refine VL_iadd hX dL_law_435 ?_
    refine VL_sld hX hs c2 dL_law_436 ?_
    refine VL_callVi (As := [.int (xs (nI (5 * q) + 1).toNatClampNeg), .int (xs (nI (5 * q) + 2).toNatClampNeg)]) (rest := []) hX mk_L_60 nk_X11_person (fun l => c_X11_person l S e2) tb_88 rfl ⟨rfl, rfl, Nat.le_of_ble_eq_true rfl, Nat.le_of_ble_eq_true rfl⟩ rfl rfl (Nat.le_of_ble_eq_true rfl) dL_law_437 h1 ?_
    refine VL_istore hX dL_law_440 (by decide) rfl ?_
    refine VL_aload_n hX dL_law_442 4 rfl ?_
    refine VL_callVi (v := gI w2 88 0) (w2 := w2) (As := []) (rest := []) hX mk_L_55 nk_X11_thrown (fun l => c_X11_thrown (F := F) l S rfl) tb_88 rfl ⟨rfl, rfl, Nat.le_of_ble_eq_true rfl, Nat.le_of_ble_eq_true rfl⟩ rfl rfl (Nat.le_of_ble_eq_true rfl) dL_law_443 h1 ?_
    refine VL_iload hX dL_law_446 1 rfl ?_
    refine VL_icmp_eq (tgt := 453) hX dL_law_448 (by decide) (fun _ => ?_) (fun z => absurd hth z)
    refine VL_iload hX dL_law_453 1 rfl ?_
    refine VL_if_ne (tgt := 470) hX dL_law_455 (by decide) (fun z => absurd rfl z) (fun _ => ?_)
    refine VL_aload_n hX dL_law_458 3 rfl ?_
    refine VL_iconst (v := 0) hX dL_law_459 rfl ?_
    refine VL_lald hX tb_119 (by decide) dL_law_460 ?_
    refine VL_iload hX dL_law_461 0 rfl ?_
    refine VL_i2l hX dL_law_463 ?_
    refine VL_lcmp hX dL_law_464 ?_
    refine VL_if_eq (tgt := 470) hX dL_law_465 (by decide) (fun _ => ?_) (fun y => absurd (show lg_cmp (gJ w2 119 0) v.toInt64 = 0 from by rw [hj, hv]; unfold lg_cmp; rw [if_neg (by simp), if_pos rfl]) y)
    refine VL_goto (tgt := 1529) hX dL_law_470 (by decide) ?_
    refine VL_sub (lv' := lvL S q b) [2, 3, 4, 5, 6] rfl ?_
    exact hk _ _ _ hI2 (Nat.le_refl _) (Nat.le_refl _)
set_option maxHeartbeats 4000000 in
theorem lw_c_7 (h : Cs X S A0 kc kn w q b n F xs) (hk : Kn X S A0 kc kn b q) : VL X S A0 kc kn w 473 (lvL S q b) [] := by
  obtain ⟨hX, hs, hI, hq, hF, c1, c2, c3, c4, hc, hn⟩ := h
  obtain ⟨v, w1, w2, e1, e2, hI2⟩ := t2_loud hF hI hq
  have h0 : kc ≤ room_1.cells ∧ kn ≤ room_1.slots := ⟨Nat.le_of_succ_le hc, Nat.le_trans (Nat.le_add_right _ _) hn⟩
  refine VL_aload_n hX dL_law_473 3 rfl ?_
  refine VL_callVi (As := []) (rest := []) hX mk_L_61 nk_X10_loud (fun l => c_X10_loud l S e1) tb_0 rfl ⟨rfl, rfl, Nat.le_of_ble_eq_true rfl, Nat.le_of_ble_eq_true rfl⟩ rfl rfl (Nat.le_of_ble_eq_true rfl) dL_law_474 h0 ?_
  refine VL_aload_n hX dL_law_477 2 rfl ?_
  refine VL_callVi (As := []) (rest := [.int v]) hX mk_L_64 nk_X11_loud (fun l => c_X11_loud l S e2) tb_88 rfl ⟨rfl, rfl, Nat.le_of_ble_eq_true rfl, Nat.le_of_ble_eq_true rfl⟩ rfl rfl (Nat.le_of_ble_eq_true rfl) dL_law_478 h0 ?_
  exact VL_icmp_eq (tgt := 1529) hX dL_law_481 (by decide) (fun _ => hk _ _ _ hI2 (Nat.le_succ _) (Nat.le_add_right _ _)) (fun z => absurd rfl z)
set_option maxHeartbeats 4000000 in
theorem lw_c_8 (h : Cs X S A0 kc kn w q b n F xs) (hk : Kn X S A0 kc kn b q) : VL X S A0 kc kn w 486 (lvL S q b) [] := by
  obtain ⟨hX, hs, hI, hq, hF, c1, c2, c3, c4, hc, hn⟩ := h
  obtain ⟨v, w1, w2, e1, e2, hI2⟩ := t2_set hF hI hq (xs (nI (5 * q) + 1).toNatClampNeg) (xs (nI (5 * q) + 2).toNatClampNeg)
  have h0 : kc ≤ room_1.cells ∧ kn ≤ room_1.slots := ⟨Nat.le_of_succ_le hc, Nat.le_trans (Nat.le_add_right _ _) hn⟩
  refine VL_aload_n hX dL_law_486 3 rfl ?_
  refine VL_aload_n hX dL_law_487 4 rfl ?_
  refine VL_iload hX dL_law_488 0 rfl ?_
  refine VL_iconst (v := 1) hX dL_law_490 rfl ?_
  refine VL_iadd hX dL_law_491 ?_
  refine VL_sld hX hs c1 dL_law_492 ?_
  refine VL_aload_n hX dL_law_493 4 rfl ?_
  refine VL_iload hX dL_law_494 0 rfl ?_
  refine VL_iconst (v := 2) hX dL_law_496 rfl ?_
  refine VL_iadd hX dL_law_497 ?_
  refine VL_sld hX hs c2 dL_law_498 ?_
  refine VL_callVi (As := [.int (xs (nI (5 * q) + 1).toNatClampNeg), .int (xs (nI (5 * q) + 2).toNatClampNeg)]) (rest := []) hX mk_L_65 nk_X10_set (fun l => c_X10_set l S e1) tb_0 rfl ⟨rfl, rfl, Nat.le_of_ble_eq_true rfl, Nat.le_of_ble_eq_true rfl⟩ rfl rfl (Nat.le_of_ble_eq_true rfl) dL_law_499 h0 ?_
  refine VL_aload_n hX dL_law_502 2 rfl ?_
  refine VL_aload_n hX dL_law_503 4 rfl ?_
  refine VL_iload hX dL_law_504 0 rfl ?_
  refine VL_iconst (v := 1) hX dL_law_506 rfl ?_
  refine VL_iadd hX dL_law_507 ?_
  refine VL_sld hX hs c1 dL_law_508 ?_
  refine VL_aload_n hX dL_law_509 4 rfl ?_
  refine VL_iload hX dL_law_510 0 rfl ?_
  refine VL_iconst (v := 2) hX dL_law_512 rfl ?_
  refine VL_iadd hX dL_law_513 ?_
  refine VL_sld hX hs c2 dL_law_514 ?_
  refine VL_callVi (As := [.int (xs (nI (5 * q) + 1).toNatClampNeg), .int (xs (nI (5 * q) + 2).toNatClampNeg)]) (rest := [.int v]) hX mk_L_68 nk_X11_set (fun l => c_X11_set l S e2) tb_88 rfl ⟨rfl, rfl, Nat.le_of_ble_eq_true rfl, Nat.le_of_ble_eq_true rfl⟩ rfl rfl (Nat.le_of_ble_eq_true rfl) dL_law_515 h0 ?_
  exact VL_icmp_eq (tgt := 1529) hX dL_law_518 (by decide) (fun _ => hk _ _ _ hI2 (Nat.le_succ _) (Nat.le_add_right _ _)) (fun z => absurd rfl z)
set_option maxHeartbeats 4000000 in
theorem lw_c_9 (h : Cs X S A0 kc kn w q b n F xs) (hk : Kn X S A0 kc kn b q) : VL X S A0 kc kn w 523 (lvL S q b) [] := by
  obtain ⟨hX, hs, hI, hq, hF, c1, c2, c3, c4, hc, hn⟩ := h
  obtain ⟨v, w1, w2, e1, e2, hI2⟩ := t2_sheet hF hI hq (xs (nI (5 * q) + 1).toNatClampNeg) (xs (nI (5 * q) + 2).toNatClampNeg) (xs (nI (5 * q) + 3).toNatClampNeg) (xs (nI (5 * q) + 4).toNatClampNeg)
  have h0 : kc ≤ room_1.cells ∧ kn ≤ room_1.slots := ⟨Nat.le_of_succ_le hc, Nat.le_trans (Nat.le_add_right _ _) hn⟩
  refine VL_aload_n hX dL_law_523 3 rfl ?_
  refine VL_aload_n hX dL_law_524 4 rfl ?_
  refine VL_iload hX dL_law_525 0 rfl ?_
  refine VL_iconst (v := 1) hX dL_law_527 rfl ?_
  refine VL_iadd hX dL_law_528 ?_
  refine VL_sld hX hs c1 dL_law_529 ?_
  refine VL_aload_n hX dL_law_530 4 rfl ?_
  refine VL_iload hX dL_law_531 0 rfl ?_
  refine VL_iconst (v := 2) hX dL_law_533 rfl ?_
  refine VL_iadd hX dL_law_534 ?_
  refine VL_sld hX hs c2 dL_law_535 ?_
  refine VL_aload_n hX dL_law_536 4 rfl ?_
  refine VL_iload hX dL_law_537 0 rfl ?_
  refine VL_iconst (v := 3) hX dL_law_539 rfl ?_
  refine VL_iadd hX dL_law_540 ?_
  refine VL_sld hX hs c3 dL_law_541 ?_
  refine VL_aload_n hX dL_law_542 4 rfl ?_
  refine VL_iload hX dL_law_543 0 rfl ?_
  refine VL_iconst (v := 4) hX dL_law_545 rfl ?_
  refine VL_iadd hX dL_law_546 ?_
  refine VL_sld hX hs c4 dL_law_547 ?_
  refine VL_callVi (As := [.int (xs (nI (5 * q) + 1).toNatClampNeg), .int (xs (nI (5 * q) + 2).toNatClampNeg), .int (xs (nI (5 * q) + 3).toNatClampNeg), .int (xs (nI (5 * q) + 4).toNatClampNeg)]) (rest := []) hX mk_L_69 nk_X10_sheet (fun l => c_X10_sheet l S e1) tb_0 rfl ⟨rfl, rfl, Nat.le_of_ble_eq_true rfl, Nat.le_of_ble_eq_true rfl⟩ rfl rfl (Nat.le_of_ble_eq_true rfl) dL_law_548 h0 ?_
  refine VL_aload_n hX dL_law_551 2 rfl ?_
  refine VL_aload_n hX dL_law_552 4 rfl ?_
  refine VL_iload hX dL_law_553 0 rfl ?_
  refine VL_iconst (v := 1) hX dL_law_555 rfl ?_
  refine VL_iadd hX dL_law_556 ?_
  refine VL_sld hX hs c1 dL_law_557 ?_
  refine VL_aload_n hX dL_law_558 4 rfl ?_
  refine VL_iload hX dL_law_559 0 rfl ?_
  refine VL_iconst (v := 2) hX dL_law_561 rfl ?_
  refine VL_iadd hX dL_law_562 ?_
  refine VL_sld hX hs c2 dL_law_563 ?_
  refine VL_aload_n hX dL_law_564 4 rfl ?_
  refine VL_iload hX dL_law_565 0 rfl ?_
  refine VL_iconst (v := 3) hX dL_law_567 rfl ?_
  refine VL_iadd hX dL_law_568 ?_
  refine VL_sld hX hs c3 dL_law_569 ?_
  refine VL_aload_n hX dL_law_570 4 rfl ?_
  refine VL_iload hX dL_law_571 0 rfl ?_
  refine VL_iconst (v := 4) hX dL_law_573 rfl ?_
  refine VL_iadd hX dL_law_574 ?_
  refine VL_sld hX hs c4 dL_law_575 ?_
  refine VL_callVi (As := [.int (xs (nI (5 * q) + 1).toNatClampNeg), .int (xs (nI (5 * q) + 2).toNatClampNeg), .int (xs (nI (5 * q) + 3).toNatClampNeg), .int (xs (nI (5 * q) + 4).toNatClampNeg)]) (rest := [.int v]) hX mk_L_73 nk_X11_sheet (fun l => c_X11_sheet l S e2) tb_88 rfl ⟨rfl, rfl, Nat.le_of_ble_eq_true rfl, Nat.le_of_ble_eq_true rfl⟩ rfl rfl (Nat.le_of_ble_eq_true rfl) dL_law_576 h0 ?_
  exact VL_icmp_eq (tgt := 1529) hX dL_law_579 (by decide) (fun _ => hk _ _ _ hI2 (Nat.le_succ _) (Nat.le_add_right _ _)) (fun z => absurd rfl z)
set_option maxHeartbeats 4000000 in
theorem lw_c_10 (h : Cs X S A0 kc kn w q b n F xs) (hk : Kn X S A0 kc kn b q) : VL X S A0 kc kn w 584 (lvL S q b) [] := by
  obtain ⟨hX, hs, hI, hq, hF, c1, c2, c3, c4, hc, hn⟩ := h
  obtain ⟨v, w1, w2, e1, e2, hI2⟩ := t2_take hF hI hq (xs (nI (5 * q) + 1).toNatClampNeg)
  have h0 : kc ≤ room_1.cells ∧ kn ≤ room_1.slots := ⟨Nat.le_of_succ_le hc, Nat.le_trans (Nat.le_add_right _ _) hn⟩
  refine VL_aload_n hX dL_law_584 3 rfl ?_
  refine VL_aload_n hX dL_law_585 4 rfl ?_
  refine VL_iload hX dL_law_586 0 rfl ?_
  refine VL_iconst (v := 1) hX dL_law_588 rfl ?_
  refine VL_iadd hX dL_law_589 ?_
  refine VL_sld hX hs c1 dL_law_590 ?_
  refine VL_callVi (As := [.int (xs (nI (5 * q) + 1).toNatClampNeg)]) (rest := []) hX mk_L_74 nk_X10_take (fun l => c_X10_take l S e1) tb_0 rfl ⟨rfl, rfl, Nat.le_of_ble_eq_true rfl, Nat.le_of_ble_eq_true rfl⟩ rfl rfl (Nat.le_of_ble_eq_true rfl) dL_law_591 h0 ?_
  refine VL_aload_n hX dL_law_594 2 rfl ?_
  refine VL_aload_n hX dL_law_595 4 rfl ?_
  refine VL_iload hX dL_law_596 0 rfl ?_
  refine VL_iconst (v := 1) hX dL_law_598 rfl ?_
  refine VL_iadd hX dL_law_599 ?_
  refine VL_sld hX hs c1 dL_law_600 ?_
  refine VL_callVi (As := [.int (xs (nI (5 * q) + 1).toNatClampNeg)]) (rest := [.int v]) hX mk_L_77 nk_X11_take (fun l => c_X11_take l S e2) tb_88 rfl ⟨rfl, rfl, Nat.le_of_ble_eq_true rfl, Nat.le_of_ble_eq_true rfl⟩ rfl rfl (Nat.le_of_ble_eq_true rfl) dL_law_601 h0 ?_
  exact VL_icmp_eq (tgt := 1529) hX dL_law_604 (by decide) (fun _ => hk _ _ _ hI2 (Nat.le_succ _) (Nat.le_add_right _ _)) (fun z => absurd rfl z)
set_option maxHeartbeats 4000000 in
theorem lw_c_11 (h : Cs X S A0 kc kn w q b n F xs) (hk : Kn X S A0 kc kn b q) : VL X S A0 kc kn w 609 (lvL S q b) [] := by
  obtain ⟨hX, hs, hI, hq, hF, c1, c2, c3, c4, hc, hn⟩ := h
  obtain ⟨v, w1, w2, e1, e2, hI2⟩ := t2_leave hF hI hq (xs (nI (5 * q) + 1).toNatClampNeg)
  have h0 : kc ≤ room_1.cells ∧ kn ≤ room_1.slots := ⟨Nat.le_of_succ_le hc, Nat.le_trans (Nat.le_add_right _ _) hn⟩
  refine VL_aload_n hX dL_law_609 3 rfl ?_
  refine VL_aload_n hX dL_law_610 4 rfl ?_
  refine VL_iload hX dL_law_611 0 rfl ?_
  refine VL_iconst (v := 1) hX dL_law_613 rfl ?_
  refine VL_iadd hX dL_law_614 ?_
  refine VL_sld hX hs c1 dL_law_615 ?_
  refine VL_callVi (As := [.int (xs (nI (5 * q) + 1).toNatClampNeg)]) (rest := []) hX mk_L_78 nk_X10_leave (fun l => c_X10_leave l S e1) tb_0 rfl ⟨rfl, rfl, Nat.le_of_ble_eq_true rfl, Nat.le_of_ble_eq_true rfl⟩ rfl rfl (Nat.le_of_ble_eq_true rfl) dL_law_616 h0 ?_
  refine VL_aload_n hX dL_law_619 2 rfl ?_
  refine VL_aload_n hX dL_law_620 4 rfl ?_
  refine VL_iload hX dL_law_621 0 rfl ?_
  refine VL_iconst (v := 1) hX dL_law_623 rfl ?_
  refine VL_iadd hX dL_law_624 ?_
  refine VL_sld hX hs c1 dL_law_625 ?_
  refine VL_callVi (As := [.int (xs (nI (5 * q) + 1).toNatClampNeg)]) (rest := [.int v]) hX mk_L_81 nk_X11_leave (fun l => c_X11_leave l S e2) tb_88 rfl ⟨rfl, rfl, Nat.le_of_ble_eq_true rfl, Nat.le_of_ble_eq_true rfl⟩ rfl rfl (Nat.le_of_ble_eq_true rfl) dL_law_626 h0 ?_
  exact VL_icmp_eq (tgt := 1529) hX dL_law_629 (by decide) (fun _ => hk _ _ _ hI2 (Nat.le_succ _) (Nat.le_add_right _ _)) (fun z => absurd rfl z)
set_option maxHeartbeats 4000000 in
theorem lw_c_12 (h : Cs X S A0 kc kn w q b n F xs) (hk : Kn X S A0 kc kn b q) : VL X S A0 kc kn w 634 (lvL S q b) [] := by
  obtain ⟨hX, hs, hI, hq, hF, c1, c2, c3, c4, hc, hn⟩ := h
  obtain ⟨v, w1, w2, e1, e2, hI2⟩ := t2_mend hF hI hq (xs (nI (5 * q) + 1).toNatClampNeg)
  have h0 : kc ≤ room_1.cells ∧ kn ≤ room_1.slots := ⟨Nat.le_of_succ_le hc, Nat.le_trans (Nat.le_add_right _ _) hn⟩
  refine VL_aload_n hX dL_law_634 3 rfl ?_
  refine VL_aload_n hX dL_law_635 4 rfl ?_
  refine VL_iload hX dL_law_636 0 rfl ?_
  refine VL_iconst (v := 1) hX dL_law_638 rfl ?_
  refine VL_iadd hX dL_law_639 ?_
  refine VL_sld hX hs c1 dL_law_640 ?_
  refine VL_callVi (As := [.int (xs (nI (5 * q) + 1).toNatClampNeg)]) (rest := []) hX mk_L_82 nk_X10_mend (fun l => c_X10_mend l S e1) tb_0 rfl ⟨rfl, rfl, Nat.le_of_ble_eq_true rfl, Nat.le_of_ble_eq_true rfl⟩ rfl rfl (Nat.le_of_ble_eq_true rfl) dL_law_641 h0 ?_
  refine VL_aload_n hX dL_law_644 2 rfl ?_
  refine VL_aload_n hX dL_law_645 4 rfl ?_
  refine VL_iload hX dL_law_646 0 rfl ?_
  refine VL_iconst (v := 1) hX dL_law_648 rfl ?_
  refine VL_iadd hX dL_law_649 ?_
  refine VL_sld hX hs c1 dL_law_650 ?_
  refine VL_callVi (As := [.int (xs (nI (5 * q) + 1).toNatClampNeg)]) (rest := [.int v]) hX mk_L_85 nk_X11_mend (fun l => c_X11_mend l S e2) tb_88 rfl ⟨rfl, rfl, Nat.le_of_ble_eq_true rfl, Nat.le_of_ble_eq_true rfl⟩ rfl rfl (Nat.le_of_ble_eq_true rfl) dL_law_651 h0 ?_
  exact VL_icmp_eq (tgt := 1529) hX dL_law_654 (by decide) (fun _ => hk _ _ _ hI2 (Nat.le_succ _) (Nat.le_add_right _ _)) (fun z => absurd rfl z)
set_option maxHeartbeats 4000000 in
theorem lw_c_13 (h : Cs X S A0 kc kn w q b n F xs) (hk : Kn X S A0 kc kn b q) : VL X S A0 kc kn w 659 (lvL S q b) [] := by
  obtain ⟨hX, hs, hI, hq, hF, c1, c2, c3, c4, hc, hn⟩ := h
  obtain ⟨v, w1, w2, e1, e2, hI2⟩ := t2_minutes hF hI hq (xs (nI (5 * q) + 1).toNatClampNeg)
  have h0 : kc ≤ room_1.cells ∧ kn ≤ room_1.slots := ⟨Nat.le_of_succ_le hc, Nat.le_trans (Nat.le_add_right _ _) hn⟩
  refine VL_aload_n hX dL_law_659 3 rfl ?_
  refine VL_aload_n hX dL_law_660 4 rfl ?_
  refine VL_iload hX dL_law_661 0 rfl ?_
  refine VL_iconst (v := 1) hX dL_law_663 rfl ?_
  refine VL_iadd hX dL_law_664 ?_
  refine VL_sld hX hs c1 dL_law_665 ?_
  refine VL_callVi (As := [.int (xs (nI (5 * q) + 1).toNatClampNeg)]) (rest := []) hX mk_L_86 nk_X10_minutes (fun l => c_X10_minutes l S e1) tb_0 rfl ⟨rfl, rfl, Nat.le_of_ble_eq_true rfl, Nat.le_of_ble_eq_true rfl⟩ rfl rfl (Nat.le_of_ble_eq_true rfl) dL_law_666 h0 ?_
  refine VL_aload_n hX dL_law_669 2 rfl ?_
  refine VL_aload_n hX dL_law_670 4 rfl ?_
  refine VL_iload hX dL_law_671 0 rfl ?_
  refine VL_iconst (v := 1) hX dL_law_673 rfl ?_
  refine VL_iadd hX dL_law_674 ?_
  refine VL_sld hX hs c1 dL_law_675 ?_
  refine VL_callVi (As := [.int (xs (nI (5 * q) + 1).toNatClampNeg)]) (rest := [.int v]) hX mk_L_89 nk_X11_minutes (fun l => c_X11_minutes l S e2) tb_88 rfl ⟨rfl, rfl, Nat.le_of_ble_eq_true rfl, Nat.le_of_ble_eq_true rfl⟩ rfl rfl (Nat.le_of_ble_eq_true rfl) dL_law_676 h0 ?_
  exact VL_icmp_eq (tgt := 1529) hX dL_law_679 (by decide) (fun _ => hk _ _ _ hI2 (Nat.le_succ _) (Nat.le_add_right _ _)) (fun z => absurd rfl z)
set_option maxHeartbeats 4000000 in
theorem lw_c_14 (h : Cs X S A0 kc kn w q b n F xs) (hk : Kn X S A0 kc kn b q) : VL X S A0 kc kn w 684 (lvL S q b) [] := by
  obtain ⟨hX, hs, hI, hq, hF, c1, c2, c3, c4, hc, hn⟩ := h
  obtain ⟨v, w1, w2, e1, e2, hI2⟩ := t2_watch hF hI hq
  have h0 : kc ≤ room_1.cells ∧ kn ≤ room_1.slots := ⟨Nat.le_of_succ_le hc, Nat.le_trans (Nat.le_add_right _ _) hn⟩
  refine VL_aload_n hX dL_law_684 3 rfl ?_
  refine VL_callVi (As := []) (rest := []) hX mk_L_90 nk_X10_watch (fun l => c_X10_watch l S e1) tb_0 rfl ⟨rfl, rfl, Nat.le_of_ble_eq_true rfl, Nat.le_of_ble_eq_true rfl⟩ rfl rfl (Nat.le_of_ble_eq_true rfl) dL_law_685 h0 ?_
  refine VL_aload_n hX dL_law_688 2 rfl ?_
  refine VL_callVi (As := []) (rest := [.int v]) hX mk_L_93 nk_X11_watch (fun l => c_X11_watch l S e2) tb_88 rfl ⟨rfl, rfl, Nat.le_of_ble_eq_true rfl, Nat.le_of_ble_eq_true rfl⟩ rfl rfl (Nat.le_of_ble_eq_true rfl) dL_law_689 h0 ?_
  exact VL_icmp_eq (tgt := 1529) hX dL_law_692 (by decide) (fun _ => hk _ _ _ hI2 (Nat.le_succ _) (Nat.le_add_right _ _)) (fun z => absurd rfl z)
set_option maxHeartbeats 4000000 in
theorem lw_c_15 (h : Cs X S A0 kc kn w q b n F xs) (hk : Kn X S A0 kc kn b q) : VL X S A0 kc kn w 697 (lvL S q b) [] := by
  obtain ⟨hX, hs, hI, hq, hF, c1, c2, c3, c4, hc, hn⟩ := h
  obtain ⟨v, w1, w2, e1, e2, hI2⟩ := t2_undo hF hI hq
  have h0 : kc ≤ room_1.cells ∧ kn ≤ room_1.slots := ⟨Nat.le_of_succ_le hc, Nat.le_trans (Nat.le_add_right _ _) hn⟩
  refine VL_aload_n hX dL_law_697 3 rfl ?_
  refine VL_callVi (As := []) (rest := []) hX mk_L_94 nk_X10_undo (fun l => c_X10_undo l S e1) tb_0 rfl ⟨rfl, rfl, Nat.le_of_ble_eq_true rfl, Nat.le_of_ble_eq_true rfl⟩ rfl rfl (Nat.le_of_ble_eq_true rfl) dL_law_698 h0 ?_
  refine VL_aload_n hX dL_law_701 2 rfl ?_
  refine VL_callVi (As := []) (rest := [.int v]) hX mk_L_97 nk_X11_undo (fun l => c_X11_undo l S e2) tb_88 rfl ⟨rfl, rfl, Nat.le_of_ble_eq_true rfl, Nat.le_of_ble_eq_true rfl⟩ rfl rfl (Nat.le_of_ble_eq_true rfl) dL_law_702 h0 ?_
  exact VL_icmp_eq (tgt := 1529) hX dL_law_705 (by decide) (fun _ => hk _ _ _ hI2 (Nat.le_succ _) (Nat.le_add_right _ _)) (fun z => absurd rfl z)
set_option maxHeartbeats 4000000 in
theorem lw_c_16 (h : Cs X S A0 kc kn w q b n F xs) (hk : Kn X S A0 kc kn b q) : VL X S A0 kc kn w 710 (lvL S q b) [] := by
  obtain ⟨hX, hs, hI, hq, hF, c1, c2, c3, c4, hc, hn⟩ := h
  obtain ⟨v, w1, w2, e1, e2, hI2⟩ := t2_lasts hF hI hq
  have h0 : kc ≤ room_1.cells ∧ kn ≤ room_1.slots := ⟨Nat.le_of_succ_le hc, Nat.le_trans (Nat.le_add_right _ _) hn⟩
  refine VL_aload_n hX dL_law_710 3 rfl ?_
  refine VL_callVi (As := []) (rest := []) hX mk_L_98 nk_X10_lasts (fun l => c_X10_lasts l S e1) tb_0 rfl ⟨rfl, rfl, Nat.le_of_ble_eq_true rfl, Nat.le_of_ble_eq_true rfl⟩ rfl rfl (Nat.le_of_ble_eq_true rfl) dL_law_711 h0 ?_
  refine VL_aload_n hX dL_law_714 2 rfl ?_
  refine VL_callVi (As := []) (rest := [.int v]) hX mk_L_101 nk_X11_lasts (fun l => c_X11_lasts l S e2) tb_88 rfl ⟨rfl, rfl, Nat.le_of_ble_eq_true rfl, Nat.le_of_ble_eq_true rfl⟩ rfl rfl (Nat.le_of_ble_eq_true rfl) dL_law_715 h0 ?_
  exact VL_icmp_eq (tgt := 1529) hX dL_law_718 (by decide) (fun _ => hk _ _ _ hI2 (Nat.le_succ _) (Nat.le_add_right _ _)) (fun z => absurd rfl z)
set_option maxHeartbeats 4000000 in
theorem lw_c_17 (h : Cs X S A0 kc kn w q b n F xs) (hk : Kn X S A0 kc kn b q) : VL X S A0 kc kn w 723 (lvL S q b) [] := by
  obtain ⟨hX, hs, hI, hq, hF, c1, c2, c3, c4, hc, hn⟩ := h
  obtain ⟨v, w1, w2, e1, e2, hI2⟩ := t2_hush hF hI hq
  have h0 : kc ≤ room_1.cells ∧ kn ≤ room_1.slots := ⟨Nat.le_of_succ_le hc, Nat.le_trans (Nat.le_add_right _ _) hn⟩
  refine VL_aload_n hX dL_law_723 3 rfl ?_
  refine VL_callVi (As := []) (rest := []) hX mk_L_102 nk_X10_hush (fun l => c_X10_hush l S e1) tb_0 rfl ⟨rfl, rfl, Nat.le_of_ble_eq_true rfl, Nat.le_of_ble_eq_true rfl⟩ rfl rfl (Nat.le_of_ble_eq_true rfl) dL_law_724 h0 ?_
  refine VL_aload_n hX dL_law_727 2 rfl ?_
  refine VL_callVi (As := []) (rest := [.int v]) hX mk_L_105 nk_X11_hush (fun l => c_X11_hush l S e2) tb_88 rfl ⟨rfl, rfl, Nat.le_of_ble_eq_true rfl, Nat.le_of_ble_eq_true rfl⟩ rfl rfl (Nat.le_of_ble_eq_true rfl) dL_law_728 h0 ?_
  exact VL_icmp_eq (tgt := 1529) hX dL_law_731 (by decide) (fun _ => hk _ _ _ hI2 (Nat.le_succ _) (Nat.le_add_right _ _)) (fun z => absurd rfl z)
set_option maxHeartbeats 4000000 in
theorem lw_c_18 (h : Cs X S A0 kc kn w q b n F xs) (hk : Kn X S A0 kc kn b q) : VL X S A0 kc kn w 736 (lvL S q b) [] := by
  obtain ⟨hX, hs, hI, hq, hF, c1, c2, c3, c4, hc, hn⟩ := h
  obtain ⟨v, w1, w2, e1, e2, hI2⟩ := t2_team hF hI hq (xs (nI (5 * q) + 1).toNatClampNeg)
  have h0 : kc ≤ room_1.cells ∧ kn ≤ room_1.slots := ⟨Nat.le_of_succ_le hc, Nat.le_trans (Nat.le_add_right _ _) hn⟩
  refine VL_aload_n hX dL_law_736 3 rfl ?_
  refine VL_aload_n hX dL_law_737 4 rfl ?_
  refine VL_iload hX dL_law_738 0 rfl ?_
  refine VL_iconst (v := 1) hX dL_law_740 rfl ?_
  refine VL_iadd hX dL_law_741 ?_
  refine VL_sld hX hs c1 dL_law_742 ?_
  refine VL_callVi (As := [.int (xs (nI (5 * q) + 1).toNatClampNeg)]) (rest := []) hX mk_L_106 nk_X10_team (fun l => c_X10_team l S e1) tb_0 rfl ⟨rfl, rfl, Nat.le_of_ble_eq_true rfl, Nat.le_of_ble_eq_true rfl⟩ rfl rfl (Nat.le_of_ble_eq_true rfl) dL_law_743 h0 ?_
  refine VL_aload_n hX dL_law_746 2 rfl ?_
  refine VL_aload_n hX dL_law_747 4 rfl ?_
  refine VL_iload hX dL_law_748 0 rfl ?_
  refine VL_iconst (v := 1) hX dL_law_750 rfl ?_
  refine VL_iadd hX dL_law_751 ?_
  refine VL_sld hX hs c1 dL_law_752 ?_
  refine VL_callVi (As := [.int (xs (nI (5 * q) + 1).toNatClampNeg)]) (rest := [.int v]) hX mk_L_109 nk_X11_team (fun l => c_X11_team l S e2) tb_88 rfl ⟨rfl, rfl, Nat.le_of_ble_eq_true rfl, Nat.le_of_ble_eq_true rfl⟩ rfl rfl (Nat.le_of_ble_eq_true rfl) dL_law_753 h0 ?_
  exact VL_icmp_eq (tgt := 1529) hX dL_law_756 (by decide) (fun _ => hk _ _ _ hI2 (Nat.le_succ _) (Nat.le_add_right _ _)) (fun z => absurd rfl z)
set_option maxHeartbeats 4000000 in
theorem lw_c_19 (h : Cs X S A0 kc kn w q b n F xs) (hk : Kn X S A0 kc kn b q) : VL X S A0 kc kn w 761 (lvL S q b) [] := by
  obtain ⟨hX, hs, hI, hq, hF, c1, c2, c3, c4, hc, hn⟩ := h
  obtain ⟨v, w1, w2, e1, e2, hI2⟩ := t2_strongest hF hI hq (xs (nI (5 * q) + 1).toNatClampNeg)
  have h0 : kc ≤ room_1.cells ∧ kn ≤ room_1.slots := ⟨Nat.le_of_succ_le hc, Nat.le_trans (Nat.le_add_right _ _) hn⟩
  refine VL_aload_n hX dL_law_761 3 rfl ?_
  refine VL_aload_n hX dL_law_762 4 rfl ?_
  refine VL_iload hX dL_law_763 0 rfl ?_
  refine VL_iconst (v := 1) hX dL_law_765 rfl ?_
  refine VL_iadd hX dL_law_766 ?_
  refine VL_sld hX hs c1 dL_law_767 ?_
  refine VL_callVi (As := [.int (xs (nI (5 * q) + 1).toNatClampNeg)]) (rest := []) hX mk_L_110 nk_X10_strongest (fun l => c_X10_strongest l S e1) tb_0 rfl ⟨rfl, rfl, Nat.le_of_ble_eq_true rfl, Nat.le_of_ble_eq_true rfl⟩ rfl rfl (Nat.le_of_ble_eq_true rfl) dL_law_768 h0 ?_
  refine VL_aload_n hX dL_law_771 2 rfl ?_
  refine VL_aload_n hX dL_law_772 4 rfl ?_
  refine VL_iload hX dL_law_773 0 rfl ?_
  refine VL_iconst (v := 1) hX dL_law_775 rfl ?_
  refine VL_iadd hX dL_law_776 ?_
  refine VL_sld hX hs c1 dL_law_777 ?_
  refine VL_callVi (As := [.int (xs (nI (5 * q) + 1).toNatClampNeg)]) (rest := [.int v]) hX mk_L_113 nk_X11_strongest (fun l => c_X11_strongest l S e2) tb_88 rfl ⟨rfl, rfl, Nat.le_of_ble_eq_true rfl, Nat.le_of_ble_eq_true rfl⟩ rfl rfl (Nat.le_of_ble_eq_true rfl) dL_law_778 h0 ?_
  exact VL_icmp_eq (tgt := 1529) hX dL_law_781 (by decide) (fun _ => hk _ _ _ hI2 (Nat.le_succ _) (Nat.le_add_right _ _)) (fun z => absurd rfl z)
set_option maxHeartbeats 4000000 in
theorem lw_c_20 (h : Cs X S A0 kc kn w q b n F xs) (hk : Kn X S A0 kc kn b q) : VL X S A0 kc kn w 786 (lvL S q b) [] := by
  obtain ⟨hX, hs, hI, hq, hF, c1, c2, c3, c4, hc, hn⟩ := h
  obtain ⟨v, w1, w2, e1, e2, hI2⟩ := t2_silence hF hI hq (xs (nI (5 * q) + 1).toNatClampNeg)
  have h0 : kc ≤ room_1.cells ∧ kn ≤ room_1.slots := ⟨Nat.le_of_succ_le hc, Nat.le_trans (Nat.le_add_right _ _) hn⟩
  refine VL_aload_n hX dL_law_786 3 rfl ?_
  refine VL_aload_n hX dL_law_787 4 rfl ?_
  refine VL_iload hX dL_law_788 0 rfl ?_
  refine VL_iconst (v := 1) hX dL_law_790 rfl ?_
  refine VL_iadd hX dL_law_791 ?_
  refine VL_sld hX hs c1 dL_law_792 ?_
  refine VL_callVi (As := [.int (xs (nI (5 * q) + 1).toNatClampNeg)]) (rest := []) hX mk_L_114 nk_X10_silence (fun l => c_X10_silence l S e1) tb_0 rfl ⟨rfl, rfl, Nat.le_of_ble_eq_true rfl, Nat.le_of_ble_eq_true rfl⟩ rfl rfl (Nat.le_of_ble_eq_true rfl) dL_law_793 h0 ?_
  refine VL_aload_n hX dL_law_796 2 rfl ?_
  refine VL_aload_n hX dL_law_797 4 rfl ?_
  refine VL_iload hX dL_law_798 0 rfl ?_
  refine VL_iconst (v := 1) hX dL_law_800 rfl ?_
  refine VL_iadd hX dL_law_801 ?_
  refine VL_sld hX hs c1 dL_law_802 ?_
  refine VL_callVi (As := [.int (xs (nI (5 * q) + 1).toNatClampNeg)]) (rest := [.int v]) hX mk_L_117 nk_X11_silence (fun l => c_X11_silence l S e2) tb_88 rfl ⟨rfl, rfl, Nat.le_of_ble_eq_true rfl, Nat.le_of_ble_eq_true rfl⟩ rfl rfl (Nat.le_of_ble_eq_true rfl) dL_law_803 h0 ?_
  exact VL_icmp_eq (tgt := 1529) hX dL_law_806 (by decide) (fun _ => hk _ _ _ hI2 (Nat.le_succ _) (Nat.le_add_right _ _)) (fun z => absurd rfl z)
set_option maxHeartbeats 4000000 in
theorem lw_c_21 (h : Cs X S A0 kc kn w q b n F xs) (hk : Kn X S A0 kc kn b q) : VL X S A0 kc kn w 811 (lvL S q b) [] := by
  obtain ⟨hX, hs, hI, hq, hF, c1, c2, c3, c4, hc, hn⟩ := h
  obtain ⟨v, w1, w2, e1, e2, hI2⟩ := t2_crowd hF hI hq (xs (nI (5 * q) + 1).toNatClampNeg)
  have h0 : kc ≤ room_1.cells ∧ kn ≤ room_1.slots := ⟨Nat.le_of_succ_le hc, Nat.le_trans (Nat.le_add_right _ _) hn⟩
  refine VL_aload_n hX dL_law_811 3 rfl ?_
  refine VL_aload_n hX dL_law_812 4 rfl ?_
  refine VL_iload hX dL_law_813 0 rfl ?_
  refine VL_iconst (v := 1) hX dL_law_815 rfl ?_
  refine VL_iadd hX dL_law_816 ?_
  refine VL_sld hX hs c1 dL_law_817 ?_
  refine VL_callVi (As := [.int (xs (nI (5 * q) + 1).toNatClampNeg)]) (rest := []) hX mk_L_118 nk_X10_crowd (fun l => c_X10_crowd l S e1) tb_0 rfl ⟨rfl, rfl, Nat.le_of_ble_eq_true rfl, Nat.le_of_ble_eq_true rfl⟩ rfl rfl (Nat.le_of_ble_eq_true rfl) dL_law_818 h0 ?_
  refine VL_aload_n hX dL_law_821 2 rfl ?_
  refine VL_aload_n hX dL_law_822 4 rfl ?_
  refine VL_iload hX dL_law_823 0 rfl ?_
  refine VL_iconst (v := 1) hX dL_law_825 rfl ?_
  refine VL_iadd hX dL_law_826 ?_
  refine VL_sld hX hs c1 dL_law_827 ?_
  refine VL_callVi (As := [.int (xs (nI (5 * q) + 1).toNatClampNeg)]) (rest := [.int v]) hX mk_L_121 nk_X11_crowd (fun l => c_X11_crowd l S e2) tb_88 rfl ⟨rfl, rfl, Nat.le_of_ble_eq_true rfl, Nat.le_of_ble_eq_true rfl⟩ rfl rfl (Nat.le_of_ble_eq_true rfl) dL_law_828 h0 ?_
  exact VL_icmp_eq (tgt := 1529) hX dL_law_831 (by decide) (fun _ => hk _ _ _ hI2 (Nat.le_succ _) (Nat.le_add_right _ _)) (fun z => absurd rfl z)
set_option maxHeartbeats 4000000 in
theorem lw_c_22 (h : Cs X S A0 kc kn w q b n F xs) (hk : Kn X S A0 kc kn b q) : VL X S A0 kc kn w 836 (lvL S q b) [] := by
  obtain ⟨hX, hs, hI, hq, hF, c1, c2, c3, c4, hc, hn⟩ := h
  obtain ⟨v, w1, w2, e1, e2, hI2⟩ := t2_swap hF hI hq
  have h0 : kc ≤ room_1.cells ∧ kn ≤ room_1.slots := ⟨Nat.le_of_succ_le hc, Nat.le_trans (Nat.le_add_right _ _) hn⟩
  refine VL_aload_n hX dL_law_836 3 rfl ?_
  refine VL_callVi (As := []) (rest := []) hX mk_L_122 nk_X10_swap (fun l => c_X10_swap l S e1) tb_0 rfl ⟨rfl, rfl, Nat.le_of_ble_eq_true rfl, Nat.le_of_ble_eq_true rfl⟩ rfl rfl (Nat.le_of_ble_eq_true rfl) dL_law_837 h0 ?_
  refine VL_aload_n hX dL_law_840 2 rfl ?_
  refine VL_callVi (As := []) (rest := [.int v]) hX mk_L_125 nk_X11_swap (fun l => c_X11_swap l S e2) tb_88 rfl ⟨rfl, rfl, Nat.le_of_ble_eq_true rfl, Nat.le_of_ble_eq_true rfl⟩ rfl rfl (Nat.le_of_ble_eq_true rfl) dL_law_841 h0 ?_
  exact VL_icmp_eq (tgt := 1529) hX dL_law_844 (by decide) (fun _ => hk _ _ _ hI2 (Nat.le_succ _) (Nat.le_add_right _ _)) (fun z => absurd rfl z)
set_option maxHeartbeats 4000000 in
theorem lw_c_23 (h : Cs X S A0 kc kn w q b n F xs) (hk : Kn X S A0 kc kn b q) : VL X S A0 kc kn w 849 (lvL S q b) [] := by
  obtain ⟨hX, hs, hI, hq, hF, c1, c2, c3, c4, hc, hn⟩ := h
  obtain ⟨v, w1, w2, e1, e2, hI2⟩ := t2_ready hF hI hq (xs (nI (5 * q) + 1).toNatClampNeg) (xs (nI (5 * q) + 2).toNatClampNeg)
  have h0 : kc ≤ room_1.cells ∧ kn ≤ room_1.slots := ⟨Nat.le_of_succ_le hc, Nat.le_trans (Nat.le_add_right _ _) hn⟩
  refine VL_aload_n hX dL_law_849 3 rfl ?_
  refine VL_aload_n hX dL_law_850 4 rfl ?_
  refine VL_iload hX dL_law_851 0 rfl ?_
  refine VL_iconst (v := 1) hX dL_law_853 rfl ?_
  refine VL_iadd hX dL_law_854 ?_
  refine VL_sld hX hs c1 dL_law_855 ?_
  refine VL_aload_n hX dL_law_856 4 rfl ?_
  refine VL_iload hX dL_law_857 0 rfl ?_
  refine VL_iconst (v := 2) hX dL_law_859 rfl ?_
  refine VL_iadd hX dL_law_860 ?_
  refine VL_sld hX hs c2 dL_law_861 ?_
  refine VL_callVi (As := [.int (xs (nI (5 * q) + 1).toNatClampNeg), .int (xs (nI (5 * q) + 2).toNatClampNeg)]) (rest := []) hX mk_L_126 nk_X10_ready (fun l => c_X10_ready l S e1) tb_0 rfl ⟨rfl, rfl, Nat.le_of_ble_eq_true rfl, Nat.le_of_ble_eq_true rfl⟩ rfl rfl (Nat.le_of_ble_eq_true rfl) dL_law_862 h0 ?_
  refine VL_aload_n hX dL_law_865 2 rfl ?_
  refine VL_aload_n hX dL_law_866 4 rfl ?_
  refine VL_iload hX dL_law_867 0 rfl ?_
  refine VL_iconst (v := 1) hX dL_law_869 rfl ?_
  refine VL_iadd hX dL_law_870 ?_
  refine VL_sld hX hs c1 dL_law_871 ?_
  refine VL_aload_n hX dL_law_872 4 rfl ?_
  refine VL_iload hX dL_law_873 0 rfl ?_
  refine VL_iconst (v := 2) hX dL_law_875 rfl ?_
  refine VL_iadd hX dL_law_876 ?_
  refine VL_sld hX hs c2 dL_law_877 ?_
  refine VL_callVi (As := [.int (xs (nI (5 * q) + 1).toNatClampNeg), .int (xs (nI (5 * q) + 2).toNatClampNeg)]) (rest := [.int v]) hX mk_L_129 nk_X11_ready (fun l => c_X11_ready l S e2) tb_88 rfl ⟨rfl, rfl, Nat.le_of_ble_eq_true rfl, Nat.le_of_ble_eq_true rfl⟩ rfl rfl (Nat.le_of_ble_eq_true rfl) dL_law_878 h0 ?_
  exact VL_icmp_eq (tgt := 1529) hX dL_law_881 (by decide) (fun _ => hk _ _ _ hI2 (Nat.le_succ _) (Nat.le_add_right _ _)) (fun z => absurd rfl z)
set_option maxHeartbeats 4000000 in
theorem lw_c_24 (h : Cs X S A0 kc kn w q b n F xs) (hk : Kn X S A0 kc kn b q) : VL X S A0 kc kn w 886 (lvL S q b) [] := by
  obtain ⟨hX, hs, hI, hq, hF, c1, c2, c3, c4, hc, hn⟩ := h
  obtain ⟨v, w1, w2, e1, e2, hI2⟩ := t2_rota hF hI hq (xs (nI (5 * q) + 1).toNatClampNeg) (xs (nI (5 * q) + 2).toNatClampNeg)
  have h0 : kc ≤ room_1.cells ∧ kn ≤ room_1.slots := ⟨Nat.le_of_succ_le hc, Nat.le_trans (Nat.le_add_right _ _) hn⟩
  refine VL_aload_n hX dL_law_886 3 rfl ?_
  refine VL_aload_n hX dL_law_887 4 rfl ?_
  refine VL_iload hX dL_law_888 0 rfl ?_
  refine VL_iconst (v := 1) hX dL_law_890 rfl ?_
  refine VL_iadd hX dL_law_891 ?_
  refine VL_sld hX hs c1 dL_law_892 ?_
  refine VL_aload_n hX dL_law_893 4 rfl ?_
  refine VL_iload hX dL_law_894 0 rfl ?_
  refine VL_iconst (v := 2) hX dL_law_896 rfl ?_
  refine VL_iadd hX dL_law_897 ?_
  refine VL_sld hX hs c2 dL_law_898 ?_
  refine VL_callVi (As := [.int (xs (nI (5 * q) + 1).toNatClampNeg), .int (xs (nI (5 * q) + 2).toNatClampNeg)]) (rest := []) hX mk_L_130 nk_X10_rota (fun l => c_X10_rota l S e1) tb_0 rfl ⟨rfl, rfl, Nat.le_of_ble_eq_true rfl, Nat.le_of_ble_eq_true rfl⟩ rfl rfl (Nat.le_of_ble_eq_true rfl) dL_law_899 h0 ?_
  refine VL_aload_n hX dL_law_902 2 rfl ?_
  refine VL_aload_n hX dL_law_903 4 rfl ?_
  refine VL_iload hX dL_law_904 0 rfl ?_
  refine VL_iconst (v := 1) hX dL_law_906 rfl ?_
  refine VL_iadd hX dL_law_907 ?_
  refine VL_sld hX hs c1 dL_law_908 ?_
  refine VL_aload_n hX dL_law_909 4 rfl ?_
  refine VL_iload hX dL_law_910 0 rfl ?_
  refine VL_iconst (v := 2) hX dL_law_912 rfl ?_
  refine VL_iadd hX dL_law_913 ?_
  refine VL_sld hX hs c2 dL_law_914 ?_
  refine VL_callVi (As := [.int (xs (nI (5 * q) + 1).toNatClampNeg), .int (xs (nI (5 * q) + 2).toNatClampNeg)]) (rest := [.int v]) hX mk_L_133 nk_X11_rota (fun l => c_X11_rota l S e2) tb_88 rfl ⟨rfl, rfl, Nat.le_of_ble_eq_true rfl, Nat.le_of_ble_eq_true rfl⟩ rfl rfl (Nat.le_of_ble_eq_true rfl) dL_law_915 h0 ?_
  exact VL_icmp_eq (tgt := 1529) hX dL_law_918 (by decide) (fun _ => hk _ _ _ hI2 (Nat.le_succ _) (Nat.le_add_right _ _)) (fun z => absurd rfl z)
set_option maxHeartbeats 4000000 in
theorem lw_c_25 (h : Cs X S A0 kc kn w q b n F xs) (hk : Kn X S A0 kc kn b q) : VL X S A0 kc kn w 923 (lvL S q b) [] := by
  obtain ⟨hX, hs, hI, hq, hF, c1, c2, c3, c4, hc, hn⟩ := h
  obtain ⟨v, w1, w2, e1, e2, hI2⟩ := t2_cheapest hF hI hq (xs (nI (5 * q) + 1).toNatClampNeg) (xs (nI (5 * q) + 2).toNatClampNeg)
  have h0 : kc ≤ room_1.cells ∧ kn ≤ room_1.slots := ⟨Nat.le_of_succ_le hc, Nat.le_trans (Nat.le_add_right _ _) hn⟩
  refine VL_aload_n hX dL_law_923 3 rfl ?_
  refine VL_aload_n hX dL_law_924 4 rfl ?_
  refine VL_iload hX dL_law_925 0 rfl ?_
  refine VL_iconst (v := 1) hX dL_law_927 rfl ?_
  refine VL_iadd hX dL_law_928 ?_
  refine VL_sld hX hs c1 dL_law_929 ?_
  refine VL_aload_n hX dL_law_930 4 rfl ?_
  refine VL_iload hX dL_law_931 0 rfl ?_
  refine VL_iconst (v := 2) hX dL_law_933 rfl ?_
  refine VL_iadd hX dL_law_934 ?_
  refine VL_sld hX hs c2 dL_law_935 ?_
  refine VL_callVi (As := [.int (xs (nI (5 * q) + 1).toNatClampNeg), .int (xs (nI (5 * q) + 2).toNatClampNeg)]) (rest := []) hX mk_L_134 nk_X10_cheapest (fun l => c_X10_cheapest l S e1) tb_0 rfl ⟨rfl, rfl, Nat.le_of_ble_eq_true rfl, Nat.le_of_ble_eq_true rfl⟩ rfl rfl (Nat.le_of_ble_eq_true rfl) dL_law_936 h0 ?_
  refine VL_aload_n hX dL_law_939 2 rfl ?_
  refine VL_aload_n hX dL_law_940 4 rfl ?_
  refine VL_iload hX dL_law_941 0 rfl ?_
  refine VL_iconst (v := 1) hX dL_law_943 rfl ?_
  refine VL_iadd hX dL_law_944 ?_
  refine VL_sld hX hs c1 dL_law_945 ?_
  refine VL_aload_n hX dL_law_946 4 rfl ?_
  refine VL_iload hX dL_law_947 0 rfl ?_
  refine VL_iconst (v := 2) hX dL_law_949 rfl ?_
  refine VL_iadd hX dL_law_950 ?_
  refine VL_sld hX hs c2 dL_law_951 ?_
  refine VL_callVi (As := [.int (xs (nI (5 * q) + 1).toNatClampNeg), .int (xs (nI (5 * q) + 2).toNatClampNeg)]) (rest := [.int v]) hX mk_L_137 nk_X11_cheapest (fun l => c_X11_cheapest l S e2) tb_88 rfl ⟨rfl, rfl, Nat.le_of_ble_eq_true rfl, Nat.le_of_ble_eq_true rfl⟩ rfl rfl (Nat.le_of_ble_eq_true rfl) dL_law_952 h0 ?_
  exact VL_icmp_eq (tgt := 1529) hX dL_law_955 (by decide) (fun _ => hk _ _ _ hI2 (Nat.le_succ _) (Nat.le_add_right _ _)) (fun z => absurd rfl z)
set_option maxHeartbeats 4000000 in
theorem lw_c_26 (h : Cs X S A0 kc kn w q b n F xs) (hk : Kn X S A0 kc kn b q) : VL X S A0 kc kn w 960 (lvL S q b) [] := by
  obtain ⟨hX, hs, hI, hq, hF, c1, c2, c3, c4, hc, hn⟩ := h
  obtain ⟨v, w1, w2, e1, e2, hI2⟩ := t2_longest hF hI hq (xs (nI (5 * q) + 1).toNatClampNeg)
  have h0 : kc ≤ room_1.cells ∧ kn ≤ room_1.slots := ⟨Nat.le_of_succ_le hc, Nat.le_trans (Nat.le_add_right _ _) hn⟩
  refine VL_aload_n hX dL_law_960 3 rfl ?_
  refine VL_aload_n hX dL_law_961 4 rfl ?_
  refine VL_iload hX dL_law_962 0 rfl ?_
  refine VL_iconst (v := 1) hX dL_law_964 rfl ?_
  refine VL_iadd hX dL_law_965 ?_
  refine VL_sld hX hs c1 dL_law_966 ?_
  refine VL_callVi (As := [.int (xs (nI (5 * q) + 1).toNatClampNeg)]) (rest := []) hX mk_L_138 nk_X10_longest (fun l => c_X10_longest l S e1) tb_0 rfl ⟨rfl, rfl, Nat.le_of_ble_eq_true rfl, Nat.le_of_ble_eq_true rfl⟩ rfl rfl (Nat.le_of_ble_eq_true rfl) dL_law_967 h0 ?_
  refine VL_aload_n hX dL_law_970 2 rfl ?_
  refine VL_aload_n hX dL_law_971 4 rfl ?_
  refine VL_iload hX dL_law_972 0 rfl ?_
  refine VL_iconst (v := 1) hX dL_law_974 rfl ?_
  refine VL_iadd hX dL_law_975 ?_
  refine VL_sld hX hs c1 dL_law_976 ?_
  refine VL_callVi (As := [.int (xs (nI (5 * q) + 1).toNatClampNeg)]) (rest := [.int v]) hX mk_L_141 nk_X11_longest (fun l => c_X11_longest l S e2) tb_88 rfl ⟨rfl, rfl, Nat.le_of_ble_eq_true rfl, Nat.le_of_ble_eq_true rfl⟩ rfl rfl (Nat.le_of_ble_eq_true rfl) dL_law_977 h0 ?_
  exact VL_icmp_eq (tgt := 1529) hX dL_law_980 (by decide) (fun _ => hk _ _ _ hI2 (Nat.le_succ _) (Nat.le_add_right _ _)) (fun z => absurd rfl z)
set_option maxHeartbeats 4000000 in
theorem lw_c_27 (h : Cs X S A0 kc kn w q b n F xs) (hk : Kn X S A0 kc kn b q) : VL X S A0 kc kn w 985 (lvL S q b) [] := by
  obtain ⟨hX, hs, hI, hq, hF, c1, c2, c3, c4, hc, hn⟩ := h
  obtain ⟨v, w1, w2, e1, e2, hI2⟩ := t2_change hF hI hq (xs (nI (5 * q) + 1).toNatClampNeg)
  have h0 : kc ≤ room_1.cells ∧ kn ≤ room_1.slots := ⟨Nat.le_of_succ_le hc, Nat.le_trans (Nat.le_add_right _ _) hn⟩
  refine VL_aload_n hX dL_law_985 3 rfl ?_
  refine VL_aload_n hX dL_law_986 4 rfl ?_
  refine VL_iload hX dL_law_987 0 rfl ?_
  refine VL_iconst (v := 1) hX dL_law_989 rfl ?_
  refine VL_iadd hX dL_law_990 ?_
  refine VL_sld hX hs c1 dL_law_991 ?_
  refine VL_callVi (As := [.int (xs (nI (5 * q) + 1).toNatClampNeg)]) (rest := []) hX mk_L_142 nk_X10_change (fun l => c_X10_change l S e1) tb_0 rfl ⟨rfl, rfl, Nat.le_of_ble_eq_true rfl, Nat.le_of_ble_eq_true rfl⟩ rfl rfl (Nat.le_of_ble_eq_true rfl) dL_law_992 h0 ?_
  refine VL_aload_n hX dL_law_995 2 rfl ?_
  refine VL_aload_n hX dL_law_996 4 rfl ?_
  refine VL_iload hX dL_law_997 0 rfl ?_
  refine VL_iconst (v := 1) hX dL_law_999 rfl ?_
  refine VL_iadd hX dL_law_1000 ?_
  refine VL_sld hX hs c1 dL_law_1001 ?_
  refine VL_callVi (As := [.int (xs (nI (5 * q) + 1).toNatClampNeg)]) (rest := [.int v]) hX mk_L_145 nk_X11_change (fun l => c_X11_change l S e2) tb_88 rfl ⟨rfl, rfl, Nat.le_of_ble_eq_true rfl, Nat.le_of_ble_eq_true rfl⟩ rfl rfl (Nat.le_of_ble_eq_true rfl) dL_law_1002 h0 ?_
  exact VL_icmp_eq (tgt := 1529) hX dL_law_1005 (by decide) (fun _ => hk _ _ _ hI2 (Nat.le_succ _) (Nat.le_add_right _ _)) (fun z => absurd rfl z)
set_option maxHeartbeats 4000000 in
theorem lw_c_28 (h : Cs X S A0 kc kn w q b n F xs) (hk : Kn X S A0 kc kn b q) : VL X S A0 kc kn w 1010 (lvL S q b) [] := by
  obtain ⟨hX, hs, hI, hq, hF, c1, c2, c3, c4, hc, hn⟩ := h
  obtain ⟨v, w1, w2, e1, e2, hI2⟩ := t2_doubts hF hI hq (xs (nI (5 * q) + 1).toNatClampNeg)
  have h0 : kc ≤ room_1.cells ∧ kn ≤ room_1.slots := ⟨Nat.le_of_succ_le hc, Nat.le_trans (Nat.le_add_right _ _) hn⟩
  refine VL_aload_n hX dL_law_1010 3 rfl ?_
  refine VL_aload_n hX dL_law_1011 4 rfl ?_
  refine VL_iload hX dL_law_1012 0 rfl ?_
  refine VL_iconst (v := 1) hX dL_law_1014 rfl ?_
  refine VL_iadd hX dL_law_1015 ?_
  refine VL_sld hX hs c1 dL_law_1016 ?_
  refine VL_callVi (As := [.int (xs (nI (5 * q) + 1).toNatClampNeg)]) (rest := []) hX mk_L_146 nk_X10_doubts (fun l => c_X10_doubts l S e1) tb_0 rfl ⟨rfl, rfl, Nat.le_of_ble_eq_true rfl, Nat.le_of_ble_eq_true rfl⟩ rfl rfl (Nat.le_of_ble_eq_true rfl) dL_law_1017 h0 ?_
  refine VL_aload_n hX dL_law_1020 2 rfl ?_
  refine VL_aload_n hX dL_law_1021 4 rfl ?_
  refine VL_iload hX dL_law_1022 0 rfl ?_
  refine VL_iconst (v := 1) hX dL_law_1024 rfl ?_
  refine VL_iadd hX dL_law_1025 ?_
  refine VL_sld hX hs c1 dL_law_1026 ?_
  refine VL_callVi (As := [.int (xs (nI (5 * q) + 1).toNatClampNeg)]) (rest := [.int v]) hX mk_L_149 nk_X11_doubts (fun l => c_X11_doubts l S e2) tb_88 rfl ⟨rfl, rfl, Nat.le_of_ble_eq_true rfl, Nat.le_of_ble_eq_true rfl⟩ rfl rfl (Nat.le_of_ble_eq_true rfl) dL_law_1027 h0 ?_
  exact VL_icmp_eq (tgt := 1529) hX dL_law_1030 (by decide) (fun _ => hk _ _ _ hI2 (Nat.le_succ _) (Nat.le_add_right _ _)) (fun z => absurd rfl z)
set_option maxHeartbeats 4000000 in
theorem lw_c_29 (h : Cs X S A0 kc kn w q b n F xs) (hk : Kn X S A0 kc kn b q) : VL X S A0 kc kn w 1035 (lvL S q b) [] := by
  obtain ⟨hX, hs, hI, hq, hF, c1, c2, c3, c4, hc, hn⟩ := h
  obtain ⟨v, w1, w2, e1, e2, hI2⟩ := t2_frees hF hI hq
  have h0 : kc ≤ room_1.cells ∧ kn ≤ room_1.slots := ⟨Nat.le_of_succ_le hc, Nat.le_trans (Nat.le_add_right _ _) hn⟩
  refine VL_aload_n hX dL_law_1035 3 rfl ?_
  refine VL_callVi (As := []) (rest := []) hX mk_L_150 nk_X10_frees (fun l => c_X10_frees l S e1) tb_0 rfl ⟨rfl, rfl, Nat.le_of_ble_eq_true rfl, Nat.le_of_ble_eq_true rfl⟩ rfl rfl (Nat.le_of_ble_eq_true rfl) dL_law_1036 h0 ?_
  refine VL_aload_n hX dL_law_1039 2 rfl ?_
  refine VL_callVi (As := []) (rest := [.int v]) hX mk_L_153 nk_X11_frees (fun l => c_X11_frees l S e2) tb_88 rfl ⟨rfl, rfl, Nat.le_of_ble_eq_true rfl, Nat.le_of_ble_eq_true rfl⟩ rfl rfl (Nat.le_of_ble_eq_true rfl) dL_law_1040 h0 ?_
  exact VL_icmp_eq (tgt := 1529) hX dL_law_1043 (by decide) (fun _ => hk _ _ _ hI2 (Nat.le_succ _) (Nat.le_add_right _ _)) (fun z => absurd rfl z)
set_option maxHeartbeats 4000000 in
theorem lw_c_30 (h : Cs X S A0 kc kn w q b n F xs) (hk : Kn X S A0 kc kn b q) : VL X S A0 kc kn w 1048 (lvL S q b) [] := by
  obtain ⟨hX, hs, hI, hq, hF, c1, c2, c3, c4, hc, hn⟩ := h
  obtain ⟨v, w1, w2, e1, e2, hI2⟩ := t2_persuade hF hI hq
  have h0 : kc ≤ room_1.cells ∧ kn ≤ room_1.slots := ⟨Nat.le_of_succ_le hc, Nat.le_trans (Nat.le_add_right _ _) hn⟩
  refine VL_aload_n hX dL_law_1048 3 rfl ?_
  refine VL_callVi (As := []) (rest := []) hX mk_L_154 nk_X10_persuade (fun l => c_X10_persuade l S e1) tb_0 rfl ⟨rfl, rfl, Nat.le_of_ble_eq_true rfl, Nat.le_of_ble_eq_true rfl⟩ rfl rfl (Nat.le_of_ble_eq_true rfl) dL_law_1049 h0 ?_
  refine VL_aload_n hX dL_law_1052 2 rfl ?_
  refine VL_callVi (As := []) (rest := [.int v]) hX mk_L_157 nk_X11_persuade (fun l => c_X11_persuade l S e2) tb_88 rfl ⟨rfl, rfl, Nat.le_of_ble_eq_true rfl, Nat.le_of_ble_eq_true rfl⟩ rfl rfl (Nat.le_of_ble_eq_true rfl) dL_law_1053 h0 ?_
  exact VL_icmp_eq (tgt := 1529) hX dL_law_1056 (by decide) (fun _ => hk _ _ _ hI2 (Nat.le_succ _) (Nat.le_add_right _ _)) (fun z => absurd rfl z)
set_option maxHeartbeats 4000000 in
theorem lw_c_31 (h : Cs X S A0 kc kn w q b n F xs) (hk : Kn X S A0 kc kn b q) : VL X S A0 kc kn w 1061 (lvL S q b) [] := by
  obtain ⟨hX, hs, hI, hq, hF, c1, c2, c3, c4, hc, hn⟩ := h
  obtain ⟨v, w1, w2, e1, e2, hI2⟩ := t2_firm hF hI hq
  have h0 : kc ≤ room_1.cells ∧ kn ≤ room_1.slots := ⟨Nat.le_of_succ_le hc, Nat.le_trans (Nat.le_add_right _ _) hn⟩
  refine VL_aload_n hX dL_law_1061 3 rfl ?_
  refine VL_callVi (As := []) (rest := []) hX mk_L_158 nk_X10_firm (fun l => c_X10_firm l S e1) tb_0 rfl ⟨rfl, rfl, Nat.le_of_ble_eq_true rfl, Nat.le_of_ble_eq_true rfl⟩ rfl rfl (Nat.le_of_ble_eq_true rfl) dL_law_1062 h0 ?_
  refine VL_aload_n hX dL_law_1065 2 rfl ?_
  refine VL_callVi (As := []) (rest := [.int v]) hX mk_L_161 nk_X11_firm (fun l => c_X11_firm l S e2) tb_88 rfl ⟨rfl, rfl, Nat.le_of_ble_eq_true rfl, Nat.le_of_ble_eq_true rfl⟩ rfl rfl (Nat.le_of_ble_eq_true rfl) dL_law_1066 h0 ?_
  exact VL_icmp_eq (tgt := 1529) hX dL_law_1069 (by decide) (fun _ => hk _ _ _ hI2 (Nat.le_succ _) (Nat.le_add_right _ _)) (fun z => absurd rfl z)
set_option maxHeartbeats 4000000 in
theorem lw_c_32 (h : Cs X S A0 kc kn w q b n F xs) (hk : Kn X S A0 kc kn b q) : VL X S A0 kc kn w 1074 (lvL S q b) [] := by
  obtain ⟨hX, hs, hI, hq, hF, c1, c2, c3, c4, hc, hn⟩ := h
  obtain ⟨v, w1, w2, e1, e2, hI2⟩ := t2_law hF hI hq
  have h0 : kc ≤ room_1.cells ∧ kn ≤ room_1.slots := ⟨Nat.le_of_succ_le hc, Nat.le_trans (Nat.le_add_right _ _) hn⟩
  refine VL_aload_n hX dL_law_1074 3 rfl ?_
  refine VL_callVi (As := []) (rest := []) hX mk_L_162 nk_X10_law (fun l => c_X10_law l S e1) tb_0 rfl ⟨rfl, rfl, Nat.le_of_ble_eq_true rfl, Nat.le_of_ble_eq_true rfl⟩ rfl rfl (Nat.le_of_ble_eq_true rfl) dL_law_1075 h0 ?_
  refine VL_aload_n hX dL_law_1078 2 rfl ?_
  refine VL_callVi (As := []) (rest := [.int v]) hX mk_L_165 nk_X11_law (fun l => c_X11_law l S e2) tb_88 rfl ⟨rfl, rfl, Nat.le_of_ble_eq_true rfl, Nat.le_of_ble_eq_true rfl⟩ rfl rfl (Nat.le_of_ble_eq_true rfl) dL_law_1079 h0 ?_
  exact VL_icmp_eq (tgt := 1529) hX dL_law_1082 (by decide) (fun _ => hk _ _ _ hI2 (Nat.le_succ _) (Nat.le_add_right _ _)) (fun z => absurd rfl z)
set_option maxHeartbeats 4000000 in
theorem lw_c_33 (h : Cs X S A0 kc kn w q b n F xs) (hk : Kn X S A0 kc kn b q) : VL X S A0 kc kn w 1087 (lvL S q b) [] := by
  obtain ⟨hX, hs, hI, hq, hF, c1, c2, c3, c4, hc, hn⟩ := h
  obtain ⟨v, w1, w2, e1, e2, hI2⟩ := t2_frozen hF hI hq (xs (nI (5 * q) + 1).toNatClampNeg)
  have h0 : kc ≤ room_1.cells ∧ kn ≤ room_1.slots := ⟨Nat.le_of_succ_le hc, Nat.le_trans (Nat.le_add_right _ _) hn⟩
  refine VL_aload_n hX dL_law_1087 3 rfl ?_
  refine VL_aload_n hX dL_law_1088 4 rfl ?_
  refine VL_iload hX dL_law_1089 0 rfl ?_
  refine VL_iconst (v := 1) hX dL_law_1091 rfl ?_
  refine VL_iadd hX dL_law_1092 ?_
  refine VL_sld hX hs c1 dL_law_1093 ?_
  refine VL_callVi (As := [.int (xs (nI (5 * q) + 1).toNatClampNeg)]) (rest := []) hX mk_L_166 nk_X10_frozen (fun l => c_X10_frozen l S e1) tb_0 rfl ⟨rfl, rfl, Nat.le_of_ble_eq_true rfl, Nat.le_of_ble_eq_true rfl⟩ rfl rfl (Nat.le_of_ble_eq_true rfl) dL_law_1094 h0 ?_
  refine VL_aload_n hX dL_law_1097 2 rfl ?_
  refine VL_aload_n hX dL_law_1098 4 rfl ?_
  refine VL_iload hX dL_law_1099 0 rfl ?_
  refine VL_iconst (v := 1) hX dL_law_1101 rfl ?_
  refine VL_iadd hX dL_law_1102 ?_
  refine VL_sld hX hs c1 dL_law_1103 ?_
  refine VL_callVi (As := [.int (xs (nI (5 * q) + 1).toNatClampNeg)]) (rest := [.int v]) hX mk_L_169 nk_X11_frozen (fun l => c_X11_frozen l S e2) tb_88 rfl ⟨rfl, rfl, Nat.le_of_ble_eq_true rfl, Nat.le_of_ble_eq_true rfl⟩ rfl rfl (Nat.le_of_ble_eq_true rfl) dL_law_1104 h0 ?_
  exact VL_icmp_eq (tgt := 1529) hX dL_law_1107 (by decide) (fun _ => hk _ _ _ hI2 (Nat.le_succ _) (Nat.le_add_right _ _)) (fun z => absurd rfl z)
set_option maxHeartbeats 4000000 in
theorem lw_c_34 (h : Cs X S A0 kc kn w q b n F xs) (hk : Kn X S A0 kc kn b q) : VL X S A0 kc kn w 1112 (lvL S q b) [] := by
  obtain ⟨hX, hs, hI, hq, hF, c1, c2, c3, c4, hc, hn⟩ := h
  obtain ⟨v, w1, w2, e1, e2, hI2⟩ := t2_heaviest hF hI hq (xs (nI (5 * q) + 1).toNatClampNeg)
  have h0 : kc ≤ room_1.cells ∧ kn ≤ room_1.slots := ⟨Nat.le_of_succ_le hc, Nat.le_trans (Nat.le_add_right _ _) hn⟩
  refine VL_aload_n hX dL_law_1112 3 rfl ?_
  refine VL_aload_n hX dL_law_1113 4 rfl ?_
  refine VL_iload hX dL_law_1114 0 rfl ?_
  refine VL_iconst (v := 1) hX dL_law_1116 rfl ?_
  refine VL_iadd hX dL_law_1117 ?_
  refine VL_sld hX hs c1 dL_law_1118 ?_
  refine VL_callVi (As := [.int (xs (nI (5 * q) + 1).toNatClampNeg)]) (rest := []) hX mk_L_170 nk_X10_heaviest (fun l => c_X10_heaviest l S e1) tb_0 rfl ⟨rfl, rfl, Nat.le_of_ble_eq_true rfl, Nat.le_of_ble_eq_true rfl⟩ rfl rfl (Nat.le_of_ble_eq_true rfl) dL_law_1119 h0 ?_
  refine VL_aload_n hX dL_law_1122 2 rfl ?_
  refine VL_aload_n hX dL_law_1123 4 rfl ?_
  refine VL_iload hX dL_law_1124 0 rfl ?_
  refine VL_iconst (v := 1) hX dL_law_1126 rfl ?_
  refine VL_iadd hX dL_law_1127 ?_
  refine VL_sld hX hs c1 dL_law_1128 ?_
  refine VL_callVi (As := [.int (xs (nI (5 * q) + 1).toNatClampNeg)]) (rest := [.int v]) hX mk_L_173 nk_X11_heaviest (fun l => c_X11_heaviest l S e2) tb_88 rfl ⟨rfl, rfl, Nat.le_of_ble_eq_true rfl, Nat.le_of_ble_eq_true rfl⟩ rfl rfl (Nat.le_of_ble_eq_true rfl) dL_law_1129 h0 ?_
  exact VL_icmp_eq (tgt := 1529) hX dL_law_1132 (by decide) (fun _ => hk _ _ _ hI2 (Nat.le_succ _) (Nat.le_add_right _ _)) (fun z => absurd rfl z)
set_option maxHeartbeats 4000000 in
theorem lw_c_35 (h : Cs X S A0 kc kn w q b n F xs) (hk : Kn X S A0 kc kn b q) : VL X S A0 kc kn w 1137 (lvL S q b) [] := by
  obtain ⟨hX, hs, hI, hq, hF, c1, c2, c3, c4, hc, hn⟩ := h
  obtain ⟨v, w1, w2, e1, e2, hI2⟩ := t2_noted hF hI hq (xs (nI (5 * q) + 1).toNatClampNeg) (xs (nI (5 * q) + 2).toNatClampNeg) (xs (nI (5 * q) + 3).toNatClampNeg)
  have h0 : kc ≤ room_1.cells ∧ kn ≤ room_1.slots := ⟨Nat.le_of_succ_le hc, Nat.le_trans (Nat.le_add_right _ _) hn⟩
  refine VL_aload_n hX dL_law_1137 3 rfl ?_
  refine VL_aload_n hX dL_law_1138 4 rfl ?_
  refine VL_iload hX dL_law_1139 0 rfl ?_
  refine VL_iconst (v := 1) hX dL_law_1141 rfl ?_
  refine VL_iadd hX dL_law_1142 ?_
  refine VL_sld hX hs c1 dL_law_1143 ?_
  refine VL_aload_n hX dL_law_1144 4 rfl ?_
  refine VL_iload hX dL_law_1145 0 rfl ?_
  refine VL_iconst (v := 2) hX dL_law_1147 rfl ?_
  refine VL_iadd hX dL_law_1148 ?_
  refine VL_sld hX hs c2 dL_law_1149 ?_
  refine VL_aload_n hX dL_law_1150 4 rfl ?_
  refine VL_iload hX dL_law_1151 0 rfl ?_
  refine VL_iconst (v := 3) hX dL_law_1153 rfl ?_
  refine VL_iadd hX dL_law_1154 ?_
  refine VL_sld hX hs c3 dL_law_1155 ?_
  refine VL_callVi (As := [.int (xs (nI (5 * q) + 1).toNatClampNeg), .int (xs (nI (5 * q) + 2).toNatClampNeg), .int (xs (nI (5 * q) + 3).toNatClampNeg)]) (rest := []) hX mk_L_174 nk_X10_noted (fun l => c_X10_noted l S e1) tb_0 rfl ⟨rfl, rfl, Nat.le_of_ble_eq_true rfl, Nat.le_of_ble_eq_true rfl⟩ rfl rfl (Nat.le_of_ble_eq_true rfl) dL_law_1156 h0 ?_
  refine VL_aload_n hX dL_law_1159 2 rfl ?_
  refine VL_aload_n hX dL_law_1160 4 rfl ?_
  refine VL_iload hX dL_law_1161 0 rfl ?_
  refine VL_iconst (v := 1) hX dL_law_1163 rfl ?_
  refine VL_iadd hX dL_law_1164 ?_
  refine VL_sld hX hs c1 dL_law_1165 ?_
  refine VL_aload_n hX dL_law_1166 4 rfl ?_
  refine VL_iload hX dL_law_1167 0 rfl ?_
  refine VL_iconst (v := 2) hX dL_law_1169 rfl ?_
  refine VL_iadd hX dL_law_1170 ?_
  refine VL_sld hX hs c2 dL_law_1171 ?_
  refine VL_aload_n hX dL_law_1172 4 rfl ?_
  refine VL_iload hX dL_law_1173 0 rfl ?_
  refine VL_iconst (v := 3) hX dL_law_1175 rfl ?_
  refine VL_iadd hX dL_law_1176 ?_
  refine VL_sld hX hs c3 dL_law_1177 ?_
  refine VL_callVi (As := [.int (xs (nI (5 * q) + 1).toNatClampNeg), .int (xs (nI (5 * q) + 2).toNatClampNeg), .int (xs (nI (5 * q) + 3).toNatClampNeg)]) (rest := [.int v]) hX mk_L_178 nk_X11_noted (fun l => c_X11_noted l S e2) tb_88 rfl ⟨rfl, rfl, Nat.le_of_ble_eq_true rfl, Nat.le_of_ble_eq_true rfl⟩ rfl rfl (Nat.le_of_ble_eq_true rfl) dL_law_1178 h0 ?_
  exact VL_icmp_eq (tgt := 1529) hX dL_law_1181 (by decide) (fun _ => hk _ _ _ hI2 (Nat.le_succ _) (Nat.le_add_right _ _)) (fun z => absurd rfl z)
set_option maxHeartbeats 4000000 in
theorem lw_c_36 (h : Cs X S A0 kc kn w q b n F xs) (hk : Kn X S A0 kc kn b q) : VL X S A0 kc kn w 1186 (lvL S q b) [] := by
  obtain ⟨hX, hs, hI, hq, hF, c1, c2, c3, c4, hc, hn⟩ := h
  obtain ⟨v, w1, w2, e1, e2, hI2⟩ := t2_forget hF hI hq
  have h0 : kc ≤ room_1.cells ∧ kn ≤ room_1.slots := ⟨Nat.le_of_succ_le hc, Nat.le_trans (Nat.le_add_right _ _) hn⟩
  refine VL_aload_n hX dL_law_1186 3 rfl ?_
  refine VL_callVi (As := []) (rest := []) hX mk_L_179 nk_X10_forget (fun l => c_X10_forget l S e1) tb_0 rfl ⟨rfl, rfl, Nat.le_of_ble_eq_true rfl, Nat.le_of_ble_eq_true rfl⟩ rfl rfl (Nat.le_of_ble_eq_true rfl) dL_law_1187 h0 ?_
  refine VL_aload_n hX dL_law_1190 2 rfl ?_
  refine VL_callVi (As := []) (rest := [.int v]) hX mk_L_182 nk_X11_forget (fun l => c_X11_forget l S e2) tb_88 rfl ⟨rfl, rfl, Nat.le_of_ble_eq_true rfl, Nat.le_of_ble_eq_true rfl⟩ rfl rfl (Nat.le_of_ble_eq_true rfl) dL_law_1191 h0 ?_
  exact VL_icmp_eq (tgt := 1529) hX dL_law_1194 (by decide) (fun _ => hk _ _ _ hI2 (Nat.le_succ _) (Nat.le_add_right _ _)) (fun z => absurd rfl z)
set_option maxHeartbeats 4000000 in
theorem lw_c_37 (h : Cs X S A0 kc kn w q b n F xs) (hk : Kn X S A0 kc kn b q) : VL X S A0 kc kn w 1199 (lvL S q b) [] := by
  obtain ⟨hX, hs, hI, hq, hF, c1, c2, c3, c4, hc, hn⟩ := h
  obtain ⟨v, w1, w2, e1, e2, hI2⟩ := t2_rows hF hI hq
  have h0 : kc ≤ room_1.cells ∧ kn ≤ room_1.slots := ⟨Nat.le_of_succ_le hc, Nat.le_trans (Nat.le_add_right _ _) hn⟩
  refine VL_aload_n hX dL_law_1199 3 rfl ?_
  refine VL_callVi (As := []) (rest := []) hX mk_L_183 nk_X10_rows (fun l => c_X10_rows l S e1) tb_0 rfl ⟨rfl, rfl, Nat.le_of_ble_eq_true rfl, Nat.le_of_ble_eq_true rfl⟩ rfl rfl (Nat.le_of_ble_eq_true rfl) dL_law_1200 h0 ?_
  refine VL_aload_n hX dL_law_1203 2 rfl ?_
  refine VL_callVi (As := []) (rest := [.int v]) hX mk_L_186 nk_X11_rows (fun l => c_X11_rows l S e2) tb_88 rfl ⟨rfl, rfl, Nat.le_of_ble_eq_true rfl, Nat.le_of_ble_eq_true rfl⟩ rfl rfl (Nat.le_of_ble_eq_true rfl) dL_law_1204 h0 ?_
  exact VL_icmp_eq (tgt := 1529) hX dL_law_1207 (by decide) (fun _ => hk _ _ _ hI2 (Nat.le_succ _) (Nat.le_add_right _ _)) (fun z => absurd rfl z)
set_option maxHeartbeats 4000000 in
theorem lw_c_38 (h : Cs X S A0 kc kn w q b n F xs) (hk : Kn X S A0 kc kn b q) : VL X S A0 kc kn w 1212 (lvL S q b) [] := by
  obtain ⟨hX, hs, hI, hq, hF, c1, c2, c3, c4, hc, hn⟩ := h
  obtain ⟨v, w1, w2, e1, e2, hI2⟩ := t2_rang hF hI hq (xs (nI (5 * q) + 1).toNatClampNeg)
  have h0 : kc ≤ room_1.cells ∧ kn ≤ room_1.slots := ⟨Nat.le_of_succ_le hc, Nat.le_trans (Nat.le_add_right _ _) hn⟩
  refine VL_aload_n hX dL_law_1212 3 rfl ?_
  refine VL_aload_n hX dL_law_1213 4 rfl ?_
  refine VL_iload hX dL_law_1214 0 rfl ?_
  refine VL_iconst (v := 1) hX dL_law_1216 rfl ?_
  refine VL_iadd hX dL_law_1217 ?_
  refine VL_sld hX hs c1 dL_law_1218 ?_
  refine VL_callVi (As := [.int (xs (nI (5 * q) + 1).toNatClampNeg)]) (rest := []) hX mk_L_187 nk_X10_rang (fun l => c_X10_rang l S e1) tb_0 rfl ⟨rfl, rfl, Nat.le_of_ble_eq_true rfl, Nat.le_of_ble_eq_true rfl⟩ rfl rfl (Nat.le_of_ble_eq_true rfl) dL_law_1219 h0 ?_
  refine VL_aload_n hX dL_law_1222 2 rfl ?_
  refine VL_aload_n hX dL_law_1223 4 rfl ?_
  refine VL_iload hX dL_law_1224 0 rfl ?_
  refine VL_iconst (v := 1) hX dL_law_1226 rfl ?_
  refine VL_iadd hX dL_law_1227 ?_
  refine VL_sld hX hs c1 dL_law_1228 ?_
  refine VL_callVi (As := [.int (xs (nI (5 * q) + 1).toNatClampNeg)]) (rest := [.int v]) hX mk_L_190 nk_X11_rang (fun l => c_X11_rang l S e2) tb_88 rfl ⟨rfl, rfl, Nat.le_of_ble_eq_true rfl, Nat.le_of_ble_eq_true rfl⟩ rfl rfl (Nat.le_of_ble_eq_true rfl) dL_law_1229 h0 ?_
  exact VL_icmp_eq (tgt := 1529) hX dL_law_1232 (by decide) (fun _ => hk _ _ _ hI2 (Nat.le_succ _) (Nat.le_add_right _ _)) (fun z => absurd rfl z)
set_option maxHeartbeats 4000000 in
theorem lw_c_39 (h : Cs X S A0 kc kn w q b n F xs) (hk : Kn X S A0 kc kn b q) : VL X S A0 kc kn w 1237 (lvL S q b) [] := by
  obtain ⟨hX, hs, hI, hq, hF, c1, c2, c3, c4, hc, hn⟩ := h
  obtain ⟨v, w1, w2, e1, e2, hI2⟩ := t2_ask hF hI hq
  have h0 : kc ≤ room_1.cells ∧ kn ≤ room_1.slots := ⟨Nat.le_of_succ_le hc, Nat.le_trans (Nat.le_add_right _ _) hn⟩
  refine VL_aload_n hX dL_law_1237 3 rfl ?_
  refine VL_callVi (As := []) (rest := []) hX mk_L_191 nk_X10_ask (fun l => c_X10_ask l S e1) tb_0 rfl ⟨rfl, rfl, Nat.le_of_ble_eq_true rfl, Nat.le_of_ble_eq_true rfl⟩ rfl rfl (Nat.le_of_ble_eq_true rfl) dL_law_1238 h0 ?_
  refine VL_aload_n hX dL_law_1241 2 rfl ?_
  refine VL_callVi (As := []) (rest := [.int v]) hX mk_L_194 nk_X11_ask (fun l => c_X11_ask l S e2) tb_88 rfl ⟨rfl, rfl, Nat.le_of_ble_eq_true rfl, Nat.le_of_ble_eq_true rfl⟩ rfl rfl (Nat.le_of_ble_eq_true rfl) dL_law_1242 h0 ?_
  exact VL_icmp_eq (tgt := 1529) hX dL_law_1245 (by decide) (fun _ => hk _ _ _ hI2 (Nat.le_succ _) (Nat.le_add_right _ _)) (fun z => absurd rfl z)
set_option maxHeartbeats 4000000 in
theorem lw_c_40 (h : Cs X S A0 kc kn w q b n F xs) (hk : Kn X S A0 kc kn b q) : VL X S A0 kc kn w 1250 (lvL S q b) [] := by
  obtain ⟨hX, hs, hI, hq, hF, c1, c2, c3, c4, hc, hn⟩ := h
  obtain ⟨v, w1, w2, e1, e2, hI2⟩ := t2_sick hF hI hq (xs (nI (5 * q) + 1).toNatClampNeg)
  have h0 : kc ≤ room_1.cells ∧ kn ≤ room_1.slots := ⟨Nat.le_of_succ_le hc, Nat.le_trans (Nat.le_add_right _ _) hn⟩
  refine VL_aload_n hX dL_law_1250 3 rfl ?_
  refine VL_aload_n hX dL_law_1251 4 rfl ?_
  refine VL_iload hX dL_law_1252 0 rfl ?_
  refine VL_iconst (v := 1) hX dL_law_1254 rfl ?_
  refine VL_iadd hX dL_law_1255 ?_
  refine VL_sld hX hs c1 dL_law_1256 ?_
  refine VL_callVi (As := [.int (xs (nI (5 * q) + 1).toNatClampNeg)]) (rest := []) hX mk_L_195 nk_X10_sick (fun l => c_X10_sick l S e1) tb_0 rfl ⟨rfl, rfl, Nat.le_of_ble_eq_true rfl, Nat.le_of_ble_eq_true rfl⟩ rfl rfl (Nat.le_of_ble_eq_true rfl) dL_law_1257 h0 ?_
  refine VL_aload_n hX dL_law_1260 2 rfl ?_
  refine VL_aload_n hX dL_law_1261 4 rfl ?_
  refine VL_iload hX dL_law_1262 0 rfl ?_
  refine VL_iconst (v := 1) hX dL_law_1264 rfl ?_
  refine VL_iadd hX dL_law_1265 ?_
  refine VL_sld hX hs c1 dL_law_1266 ?_
  refine VL_callVi (As := [.int (xs (nI (5 * q) + 1).toNatClampNeg)]) (rest := [.int v]) hX mk_L_198 nk_X11_sick (fun l => c_X11_sick l S e2) tb_88 rfl ⟨rfl, rfl, Nat.le_of_ble_eq_true rfl, Nat.le_of_ble_eq_true rfl⟩ rfl rfl (Nat.le_of_ble_eq_true rfl) dL_law_1267 h0 ?_
  exact VL_icmp_eq (tgt := 1529) hX dL_law_1270 (by decide) (fun _ => hk _ _ _ hI2 (Nat.le_succ _) (Nat.le_add_right _ _)) (fun z => absurd rfl z)
set_option maxHeartbeats 4000000 in
theorem lw_c_41 (h : Cs X S A0 kc kn w q b n F xs) (hk : Kn X S A0 kc kn b q) : VL X S A0 kc kn w 1275 (lvL S q b) [] := by
  obtain ⟨hX, hs, hI, hq, hF, c1, c2, c3, c4, hc, hn⟩ := h
  obtain ⟨v, w1, w2, e1, e2, hI2⟩ := t2_risk hF hI hq (xs (nI (5 * q) + 1).toNatClampNeg)
  have h0 : kc ≤ room_1.cells ∧ kn ≤ room_1.slots := ⟨Nat.le_of_succ_le hc, Nat.le_trans (Nat.le_add_right _ _) hn⟩
  refine VL_aload_n hX dL_law_1275 3 rfl ?_
  refine VL_aload_n hX dL_law_1276 4 rfl ?_
  refine VL_iload hX dL_law_1277 0 rfl ?_
  refine VL_iconst (v := 1) hX dL_law_1279 rfl ?_
  refine VL_iadd hX dL_law_1280 ?_
  refine VL_sld hX hs c1 dL_law_1281 ?_
  refine VL_callVi (As := [.int (xs (nI (5 * q) + 1).toNatClampNeg)]) (rest := []) hX mk_L_199 nk_X10_risk (fun l => c_X10_risk l S e1) tb_0 rfl ⟨rfl, rfl, Nat.le_of_ble_eq_true rfl, Nat.le_of_ble_eq_true rfl⟩ rfl rfl (Nat.le_of_ble_eq_true rfl) dL_law_1282 h0 ?_
  refine VL_aload_n hX dL_law_1285 2 rfl ?_
  refine VL_aload_n hX dL_law_1286 4 rfl ?_
  refine VL_iload hX dL_law_1287 0 rfl ?_
  refine VL_iconst (v := 1) hX dL_law_1289 rfl ?_
  refine VL_iadd hX dL_law_1290 ?_
  refine VL_sld hX hs c1 dL_law_1291 ?_
  refine VL_callVi (As := [.int (xs (nI (5 * q) + 1).toNatClampNeg)]) (rest := [.int v]) hX mk_L_202 nk_X11_risk (fun l => c_X11_risk l S e2) tb_88 rfl ⟨rfl, rfl, Nat.le_of_ble_eq_true rfl, Nat.le_of_ble_eq_true rfl⟩ rfl rfl (Nat.le_of_ble_eq_true rfl) dL_law_1292 h0 ?_
  exact VL_icmp_eq (tgt := 1529) hX dL_law_1295 (by decide) (fun _ => hk _ _ _ hI2 (Nat.le_succ _) (Nat.le_add_right _ _)) (fun z => absurd rfl z)
set_option maxHeartbeats 4000000 in
theorem lw_c_42 (h : Cs X S A0 kc kn w q b n F xs) (hk : Kn X S A0 kc kn b q) : VL X S A0 kc kn w 1300 (lvL S q b) [] := by
  obtain ⟨hX, hs, hI, hq, hF, c1, c2, c3, c4, hc, hn⟩ := h
  obtain ⟨v, w1, w2, e1, e2, hI2⟩ := t2_settle hF hI hq (xs (nI (5 * q) + 1).toNatClampNeg) (xs (nI (5 * q) + 2).toNatClampNeg)
  have h0 : kc ≤ room_1.cells ∧ kn ≤ room_1.slots := ⟨Nat.le_of_succ_le hc, Nat.le_trans (Nat.le_add_right _ _) hn⟩
  refine VL_aload_n hX dL_law_1300 3 rfl ?_
  refine VL_aload_n hX dL_law_1301 4 rfl ?_
  refine VL_iload hX dL_law_1302 0 rfl ?_
  refine VL_iconst (v := 1) hX dL_law_1304 rfl ?_
  refine VL_iadd hX dL_law_1305 ?_
  refine VL_sld hX hs c1 dL_law_1306 ?_
  refine VL_aload_n hX dL_law_1307 4 rfl ?_
  refine VL_iload hX dL_law_1308 0 rfl ?_
  refine VL_iconst (v := 2) hX dL_law_1310 rfl ?_
  refine VL_iadd hX dL_law_1311 ?_
  refine VL_sld hX hs c2 dL_law_1312 ?_
  refine VL_callVi (As := [.int (xs (nI (5 * q) + 1).toNatClampNeg), .int (xs (nI (5 * q) + 2).toNatClampNeg)]) (rest := []) hX mk_L_203 nk_X10_settle (fun l => c_X10_settle l S e1) tb_0 rfl ⟨rfl, rfl, Nat.le_of_ble_eq_true rfl, Nat.le_of_ble_eq_true rfl⟩ rfl rfl (Nat.le_of_ble_eq_true rfl) dL_law_1313 h0 ?_
  refine VL_aload_n hX dL_law_1316 2 rfl ?_
  refine VL_aload_n hX dL_law_1317 4 rfl ?_
  refine VL_iload hX dL_law_1318 0 rfl ?_
  refine VL_iconst (v := 1) hX dL_law_1320 rfl ?_
  refine VL_iadd hX dL_law_1321 ?_
  refine VL_sld hX hs c1 dL_law_1322 ?_
  refine VL_aload_n hX dL_law_1323 4 rfl ?_
  refine VL_iload hX dL_law_1324 0 rfl ?_
  refine VL_iconst (v := 2) hX dL_law_1326 rfl ?_
  refine VL_iadd hX dL_law_1327 ?_
  refine VL_sld hX hs c2 dL_law_1328 ?_
  refine VL_callVi (As := [.int (xs (nI (5 * q) + 1).toNatClampNeg), .int (xs (nI (5 * q) + 2).toNatClampNeg)]) (rest := [.int v]) hX mk_L_206 nk_X11_settle (fun l => c_X11_settle l S e2) tb_88 rfl ⟨rfl, rfl, Nat.le_of_ble_eq_true rfl, Nat.le_of_ble_eq_true rfl⟩ rfl rfl (Nat.le_of_ble_eq_true rfl) dL_law_1329 h0 ?_
  exact VL_icmp_eq (tgt := 1529) hX dL_law_1332 (by decide) (fun _ => hk _ _ _ hI2 (Nat.le_succ _) (Nat.le_add_right _ _)) (fun z => absurd rfl z)
set_option maxHeartbeats 4000000 in
theorem lw_c_43 (h : Cs X S A0 kc kn w q b n F xs) (hk : Kn X S A0 kc kn b q) : VL X S A0 kc kn w 1337 (lvL S q b) [] := by
  obtain ⟨hX, hs, hI, hq, hF, c1, c2, c3, c4, hc, hn⟩ := h
  obtain ⟨v, w1, w2, e1, e2, hI2⟩ := t2_strike hF hI hq (xs (nI (5 * q) + 1).toNatClampNeg)
  have h0 : kc ≤ room_1.cells ∧ kn ≤ room_1.slots := ⟨Nat.le_of_succ_le hc, Nat.le_trans (Nat.le_add_right _ _) hn⟩
  refine VL_aload_n hX dL_law_1337 3 rfl ?_
  refine VL_aload_n hX dL_law_1338 4 rfl ?_
  refine VL_iload hX dL_law_1339 0 rfl ?_
  refine VL_iconst (v := 1) hX dL_law_1341 rfl ?_
  refine VL_iadd hX dL_law_1342 ?_
  refine VL_sld hX hs c1 dL_law_1343 ?_
  refine VL_callVi (As := [.int (xs (nI (5 * q) + 1).toNatClampNeg)]) (rest := []) hX mk_L_207 nk_X10_strike (fun l => c_X10_strike l S e1) tb_0 rfl ⟨rfl, rfl, Nat.le_of_ble_eq_true rfl, Nat.le_of_ble_eq_true rfl⟩ rfl rfl (Nat.le_of_ble_eq_true rfl) dL_law_1344 h0 ?_
  refine VL_aload_n hX dL_law_1347 2 rfl ?_
  refine VL_aload_n hX dL_law_1348 4 rfl ?_
  refine VL_iload hX dL_law_1349 0 rfl ?_
  refine VL_iconst (v := 1) hX dL_law_1351 rfl ?_
  refine VL_iadd hX dL_law_1352 ?_
  refine VL_sld hX hs c1 dL_law_1353 ?_
  refine VL_callVi (As := [.int (xs (nI (5 * q) + 1).toNatClampNeg)]) (rest := [.int v]) hX mk_L_210 nk_X11_strike (fun l => c_X11_strike l S e2) tb_88 rfl ⟨rfl, rfl, Nat.le_of_ble_eq_true rfl, Nat.le_of_ble_eq_true rfl⟩ rfl rfl (Nat.le_of_ble_eq_true rfl) dL_law_1354 h0 ?_
  exact VL_icmp_eq (tgt := 1529) hX dL_law_1357 (by decide) (fun _ => hk _ _ _ hI2 (Nat.le_succ _) (Nat.le_add_right _ _)) (fun z => absurd rfl z)
set_option maxHeartbeats 4000000 in
theorem lw_c_44 (h : Cs X S A0 kc kn w q b n F xs) (hk : Kn X S A0 kc kn b q) : VL X S A0 kc kn w 1362 (lvL S q b) [] := by
  obtain ⟨hX, hs, hI, hq, hF, c1, c2, c3, c4, hc, hn⟩ := h
  obtain ⟨v, w1, w2, e1, e2, hI2⟩ := t2_years hF hI hq (xs (nI (5 * q) + 1).toNatClampNeg) (xs (nI (5 * q) + 2).toNatClampNeg)
  have h0 : kc ≤ room_1.cells ∧ kn ≤ room_1.slots := ⟨Nat.le_of_succ_le hc, Nat.le_trans (Nat.le_add_right _ _) hn⟩
  refine VL_aload_n hX dL_law_1362 3 rfl ?_
  refine VL_aload_n hX dL_law_1363 4 rfl ?_
  refine VL_iload hX dL_law_1364 0 rfl ?_
  refine VL_iconst (v := 1) hX dL_law_1366 rfl ?_
  refine VL_iadd hX dL_law_1367 ?_
  refine VL_sld hX hs c1 dL_law_1368 ?_
  refine VL_aload_n hX dL_law_1369 4 rfl ?_
  refine VL_iload hX dL_law_1370 0 rfl ?_
  refine VL_iconst (v := 2) hX dL_law_1372 rfl ?_
  refine VL_iadd hX dL_law_1373 ?_
  refine VL_sld hX hs c2 dL_law_1374 ?_
  refine VL_callVi (As := [.int (xs (nI (5 * q) + 1).toNatClampNeg), .int (xs (nI (5 * q) + 2).toNatClampNeg)]) (rest := []) hX mk_L_211 nk_X10_years (fun l => c_X10_years l S e1) tb_0 rfl ⟨rfl, rfl, Nat.le_of_ble_eq_true rfl, Nat.le_of_ble_eq_true rfl⟩ rfl rfl (Nat.le_of_ble_eq_true rfl) dL_law_1375 h0 ?_
  refine VL_aload_n hX dL_law_1378 2 rfl ?_
  refine VL_aload_n hX dL_law_1379 4 rfl ?_
  refine VL_iload hX dL_law_1380 0 rfl ?_
  refine VL_iconst (v := 1) hX dL_law_1382 rfl ?_
  refine VL_iadd hX dL_law_1383 ?_
  refine VL_sld hX hs c1 dL_law_1384 ?_
  refine VL_aload_n hX dL_law_1385 4 rfl ?_
  refine VL_iload hX dL_law_1386 0 rfl ?_
  refine VL_iconst (v := 2) hX dL_law_1388 rfl ?_
  refine VL_iadd hX dL_law_1389 ?_
  refine VL_sld hX hs c2 dL_law_1390 ?_
  refine VL_callVi (As := [.int (xs (nI (5 * q) + 1).toNatClampNeg), .int (xs (nI (5 * q) + 2).toNatClampNeg)]) (rest := [.int v]) hX mk_L_214 nk_X11_years (fun l => c_X11_years l S e2) tb_88 rfl ⟨rfl, rfl, Nat.le_of_ble_eq_true rfl, Nat.le_of_ble_eq_true rfl⟩ rfl rfl (Nat.le_of_ble_eq_true rfl) dL_law_1391 h0 ?_
  exact VL_icmp_eq (tgt := 1529) hX dL_law_1394 (by decide) (fun _ => hk _ _ _ hI2 (Nat.le_succ _) (Nat.le_add_right _ _)) (fun z => absurd rfl z)
set_option maxHeartbeats 4000000 in
theorem lw_c_45 (h : Cs X S A0 kc kn w q b n F xs) (hk : Kn X S A0 kc kn b q) : VL X S A0 kc kn w 1399 (lvL S q b) [] := by
  obtain ⟨hX, hs, hI, hq, hF, c1, c2, c3, c4, hc, hn⟩ := h
  obtain ⟨v, w1, w2, e1, e2, hI2⟩ := t2_keep hF hI hq (xs (nI (5 * q) + 1).toNatClampNeg)
  have h0 : kc ≤ room_1.cells ∧ kn ≤ room_1.slots := ⟨Nat.le_of_succ_le hc, Nat.le_trans (Nat.le_add_right _ _) hn⟩
  refine VL_aload_n hX dL_law_1399 3 rfl ?_
  refine VL_aload_n hX dL_law_1400 4 rfl ?_
  refine VL_iload hX dL_law_1401 0 rfl ?_
  refine VL_iconst (v := 1) hX dL_law_1403 rfl ?_
  refine VL_iadd hX dL_law_1404 ?_
  refine VL_sld hX hs c1 dL_law_1405 ?_
  refine VL_callVi (As := [.int (xs (nI (5 * q) + 1).toNatClampNeg)]) (rest := []) hX mk_L_215 nk_X10_keep (fun l => c_X10_keep l S e1) tb_0 rfl ⟨rfl, rfl, Nat.le_of_ble_eq_true rfl, Nat.le_of_ble_eq_true rfl⟩ rfl rfl (Nat.le_of_ble_eq_true rfl) dL_law_1406 h0 ?_
  refine VL_aload_n hX dL_law_1409 2 rfl ?_
  refine VL_aload_n hX dL_law_1410 4 rfl ?_
  refine VL_iload hX dL_law_1411 0 rfl ?_
  refine VL_iconst (v := 1) hX dL_law_1413 rfl ?_
  refine VL_iadd hX dL_law_1414 ?_
  refine VL_sld hX hs c1 dL_law_1415 ?_
  refine VL_callVi (As := [.int (xs (nI (5 * q) + 1).toNatClampNeg)]) (rest := [.int v]) hX mk_L_218 nk_X11_keep (fun l => c_X11_keep l S e2) tb_88 rfl ⟨rfl, rfl, Nat.le_of_ble_eq_true rfl, Nat.le_of_ble_eq_true rfl⟩ rfl rfl (Nat.le_of_ble_eq_true rfl) dL_law_1416 h0 ?_
  exact VL_icmp_eq (tgt := 1529) hX dL_law_1419 (by decide) (fun _ => hk _ _ _ hI2 (Nat.le_succ _) (Nat.le_add_right _ _)) (fun z => absurd rfl z)
set_option maxHeartbeats 4000000 in
theorem lw_c_46 (h : Cs X S A0 kc kn w q b n F xs) (hk : Kn X S A0 kc kn b q) : VL X S A0 kc kn w 1424 (lvL S q b) [] := by
  obtain ⟨hX, hs, hI, hq, hF, c1, c2, c3, c4, hc, hn⟩ := h
  obtain ⟨v, w1, w2, e1, e2, hI2⟩ := t2_again hF hI hq (xs (nI (5 * q) + 1).toNatClampNeg)
  have h0 : kc ≤ room_1.cells ∧ kn ≤ room_1.slots := ⟨Nat.le_of_succ_le hc, Nat.le_trans (Nat.le_add_right _ _) hn⟩
  refine VL_aload_n hX dL_law_1424 3 rfl ?_
  refine VL_aload_n hX dL_law_1425 4 rfl ?_
  refine VL_iload hX dL_law_1426 0 rfl ?_
  refine VL_iconst (v := 1) hX dL_law_1428 rfl ?_
  refine VL_iadd hX dL_law_1429 ?_
  refine VL_sld hX hs c1 dL_law_1430 ?_
  refine VL_callVi (As := [.int (xs (nI (5 * q) + 1).toNatClampNeg)]) (rest := []) hX mk_L_219 nk_X10_again (fun l => c_X10_again l S e1) tb_0 rfl ⟨rfl, rfl, Nat.le_of_ble_eq_true rfl, Nat.le_of_ble_eq_true rfl⟩ rfl rfl (Nat.le_of_ble_eq_true rfl) dL_law_1431 h0 ?_
  refine VL_aload_n hX dL_law_1434 2 rfl ?_
  refine VL_aload_n hX dL_law_1435 4 rfl ?_
  refine VL_iload hX dL_law_1436 0 rfl ?_
  refine VL_iconst (v := 1) hX dL_law_1438 rfl ?_
  refine VL_iadd hX dL_law_1439 ?_
  refine VL_sld hX hs c1 dL_law_1440 ?_
  refine VL_callVi (As := [.int (xs (nI (5 * q) + 1).toNatClampNeg)]) (rest := [.int v]) hX mk_L_222 nk_X11_again (fun l => c_X11_again l S e2) tb_88 rfl ⟨rfl, rfl, Nat.le_of_ble_eq_true rfl, Nat.le_of_ble_eq_true rfl⟩ rfl rfl (Nat.le_of_ble_eq_true rfl) dL_law_1441 h0 ?_
  exact VL_icmp_eq (tgt := 1529) hX dL_law_1444 (by decide) (fun _ => hk _ _ _ hI2 (Nat.le_succ _) (Nat.le_add_right _ _)) (fun z => absurd rfl z)
set_option maxHeartbeats 4000000 in
theorem lw_c_47 (h : Cs X S A0 kc kn w q b n F xs) (hk : Kn X S A0 kc kn b q) : VL X S A0 kc kn w 1449 (lvL S q b) [] := by
  obtain ⟨hX, hs, hI, hq, hF, c1, c2, c3, c4, hc, hn⟩ := h
  obtain ⟨v, w1, w2, e1, e2, hI2⟩ := t2_count hF hI hq (xs (nI (5 * q) + 1).toNatClampNeg)
  have h0 : kc ≤ room_1.cells ∧ kn ≤ room_1.slots := ⟨Nat.le_of_succ_le hc, Nat.le_trans (Nat.le_add_right _ _) hn⟩
  refine VL_aload_n hX dL_law_1449 3 rfl ?_
  refine VL_aload_n hX dL_law_1450 4 rfl ?_
  refine VL_iload hX dL_law_1451 0 rfl ?_
  refine VL_iconst (v := 1) hX dL_law_1453 rfl ?_
  refine VL_iadd hX dL_law_1454 ?_
  refine VL_sld hX hs c1 dL_law_1455 ?_
  refine VL_callVi (As := [.int (xs (nI (5 * q) + 1).toNatClampNeg)]) (rest := []) hX mk_L_223 nk_X10_count (fun l => c_X10_count l S e1) tb_0 rfl ⟨rfl, rfl, Nat.le_of_ble_eq_true rfl, Nat.le_of_ble_eq_true rfl⟩ rfl rfl (Nat.le_of_ble_eq_true rfl) dL_law_1456 h0 ?_
  refine VL_aload_n hX dL_law_1459 2 rfl ?_
  refine VL_aload_n hX dL_law_1460 4 rfl ?_
  refine VL_iload hX dL_law_1461 0 rfl ?_
  refine VL_iconst (v := 1) hX dL_law_1463 rfl ?_
  refine VL_iadd hX dL_law_1464 ?_
  refine VL_sld hX hs c1 dL_law_1465 ?_
  refine VL_callVi (As := [.int (xs (nI (5 * q) + 1).toNatClampNeg)]) (rest := [.int v]) hX mk_L_226 nk_X11_count (fun l => c_X11_count l S e2) tb_88 rfl ⟨rfl, rfl, Nat.le_of_ble_eq_true rfl, Nat.le_of_ble_eq_true rfl⟩ rfl rfl (Nat.le_of_ble_eq_true rfl) dL_law_1466 h0 ?_
  exact VL_icmp_eq (tgt := 1529) hX dL_law_1469 (by decide) (fun _ => hk _ _ _ hI2 (Nat.le_succ _) (Nat.le_add_right _ _)) (fun z => absurd rfl z)
set_option maxHeartbeats 4000000 in
theorem lw_c_48 (h : Cs X S A0 kc kn w q b n F xs) (hk : Kn X S A0 kc kn b q) : VL X S A0 kc kn w 1474 (lvL S q b) [] := by
  obtain ⟨hX, hs, hI, hq, hF, c1, c2, c3, c4, hc, hn⟩ := h
  obtain ⟨o, w1, e1, hm⟩ := t2_row hF hI hq (xs (nI (5 * q) + 1).toNatClampNeg)
  have h1 : kc + 1 ≤ room_1.cells ∧ kn + 6 ≤ room_1.slots := ⟨hc, hn⟩
  refine VL_aload_n hX dL_law_1474 3 rfl ?_
  refine VL_aload_n hX dL_law_1475 4 rfl ?_
  refine VL_iload hX dL_law_1476 0 rfl ?_
  refine VL_iconst (v := 1) hX dL_law_1478 rfl ?_
  refine VL_iadd hX dL_law_1479 ?_
  refine VL_sld hX hs c1 dL_law_1480 ?_
  refine VL_aload_n hX dL_law_1481 1 rfl ?_
  cases o with
  | none =>
    obtain ⟨v, w2, e2, hth, -, hI2, -⟩ := hm w1 Fr.rfl'
    refine VL_callW (v := 1) (w2 := w1) (As := [rf S 0, .int (xs (nI (5 * q) + 1).toNatClampNeg), rf S 119]) (rest := []) hX mw_L_227 nk_L_row (fun l hl => c_L_row l hl S e1) ⟨rfl, rfl, Nat.le_of_ble_eq_true rfl, Nat.le_of_ble_eq_true rfl⟩ rfl rfl (Nat.le_of_ble_eq_true rfl) dL_law_1482 h1 ?_
    refine VL_istore hX dL_law_1485 (by decide) rfl ?_
    refine VL_aload_n hX dL_law_1487 3 rfl ?_
    refine VL_aload_n hX dL_law_1488 5 rfl ?_
    refine VL_iload hX dL_law_1489 1 rfl ?_
    refine VL_iconst (v := 1) hX dL_law_1491 rfl ?_
    refine VL_iadd hX dL_law_1492 ?_
    refine VL_sld hX hs c1 dL_law_1493 ?_
    refine VL_callVl (As := [.int (xs (nI (5 * q) + 1).toNatClampNeg)]) (rest := []) hX mk_L_230 nk_X11_row (fun l => c_X11_row l S e2) tb_88 rfl ⟨rfl, rfl, Nat.le_of_ble_eq_true rfl, Nat.le_of_ble_eq_true rfl⟩ rfl rfl (Nat.le_of_ble_eq_true rfl) dL_law_1494 h1 ?_
    refine VL_lstore hX dL_law_1497 (by decide) rfl ?_
    refine VL_aload_n hX dL_law_1499 4 rfl ?_
    refine VL_callVi (v := gI w2 88 0) (w2 := w2) (As := []) (rest := []) hX mk_L_55 nk_X11_thrown (fun l => c_X11_thrown (F := F) l S rfl) tb_88 rfl ⟨rfl, rfl, Nat.le_of_ble_eq_true rfl, Nat.le_of_ble_eq_true rfl⟩ rfl rfl (Nat.le_of_ble_eq_true rfl) dL_law_1500 h1 ?_
    refine VL_iload hX dL_law_1503 1 rfl ?_
    refine VL_icmp_eq (tgt := 1510) hX dL_law_1505 (by decide) (fun _ => ?_) (fun z => absurd hth z)
    refine VL_iload hX dL_law_1510 1 rfl ?_
    refine VL_if_ne (tgt := 1526) hX dL_law_1512 (by decide) (fun _ => ?_) (fun z => absurd z (by decide))
    refine VL_goto (tgt := 1529) hX dL_law_1526 (by decide) ?_
    refine VL_sub (lv' := lvL S q b) [2, 3, 4, 5, 6] rfl ?_
    exact hk _ _ _ hI2 (Nat.le_refl _) (Nat.le_refl _)
  | some z =>
    obtain ⟨v, w2, e2, hth, hz, hI2, hJ⟩ := hm (sJ w1 119 0 z) Fr.ofJ
    have hv := hz z rfl
    have hj : gJ w2 119 0 = z := (hJ 0).trans (by rw [gJ_sJ]; simp)
    refine VL_callW (v := 0) (w2 := (sJ w1 119 0 z)) (As := [rf S 0, .int (xs (nI (5 * q) + 1).toNatClampNeg), rf S 119]) (rest := []) hX mw_L_227 nk_L_row (fun l hl => c_L_row l hl S e1) ⟨rfl, rfl, Nat.le_of_ble_eq_true rfl, Nat.le_of_ble_eq_true rfl⟩ rfl rfl (Nat.le_of_ble_eq_true rfl) dL_law_1482 h1 ?_
    refine VL_istore hX dL_law_1485 (by decide) rfl ?_
    refine VL_aload_n hX dL_law_1487 3 rfl ?_
    refine VL_aload_n hX dL_law_1488 5 rfl ?_
    refine VL_iload hX dL_law_1489 1 rfl ?_
    refine VL_iconst (v := 1) hX dL_law_1491 rfl ?_
    refine VL_iadd hX dL_law_1492 ?_
    refine VL_sld hX hs c1 dL_law_1493 ?_
    refine VL_callVl (As := [.int (xs (nI (5 * q) + 1).toNatClampNeg)]) (rest := []) hX mk_L_230 nk_X11_row (fun l => c_X11_row l S e2) tb_88 rfl ⟨rfl, rfl, Nat.le_of_ble_eq_true rfl, Nat.le_of_ble_eq_true rfl⟩ rfl rfl (Nat.le_of_ble_eq_true rfl) dL_law_1494 h1 ?_
    refine VL_lstore hX dL_law_1497 (by decide) rfl ?_
    refine VL_aload_n hX dL_law_1499 4 rfl ?_
    refine VL_callVi (v := gI w2 88 0) (w2 := w2) (As := []) (rest := []) hX mk_L_55 nk_X11_thrown (fun l => c_X11_thrown (F := F) l S rfl) tb_88 rfl ⟨rfl, rfl, Nat.le_of_ble_eq_true rfl, Nat.le_of_ble_eq_true rfl⟩ rfl rfl (Nat.le_of_ble_eq_true rfl) dL_law_1500 h1 ?_
    refine VL_iload hX dL_law_1503 1 rfl ?_
    refine VL_icmp_eq (tgt := 1510) hX dL_law_1505 (by decide) (fun _ => ?_) (fun z => absurd hth z)
    refine VL_iload hX dL_law_1510 1 rfl ?_
    refine VL_if_ne (tgt := 1526) hX dL_law_1512 (by decide) (fun z => absurd rfl z) (fun _ => ?_)
    refine VL_aload_n hX dL_law_1515 3 rfl ?_
    refine VL_iconst (v := 0) hX dL_law_1516 rfl ?_
    refine VL_lald hX tb_119 (by decide) dL_law_1517 ?_
    refine VL_lload hX dL_law_1518 0 rfl ?_
    refine VL_lcmp hX dL_law_1520 ?_
    refine VL_if_eq (tgt := 1526) hX dL_law_1521 (by decide) (fun _ => ?_) (fun y => absurd (show lg_cmp (gJ w2 119 0) v = 0 from by rw [hj, hv]; unfold lg_cmp; rw [if_neg (by simp), if_pos rfl]) y)
    refine VL_goto (tgt := 1529) hX dL_law_1526 (by decide) ?_
    refine VL_sub (lv' := lvL S q b) [2, 3, 4, 5, 6] rfl ?_
    exact hk _ _ _ hI2 (Nat.le_refl _) (Nat.le_refl _)
end LAW
