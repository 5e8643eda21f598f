-- ===== building: what is set, ropes taken, minutes =====
theorem setT_x {T : Tw} {k x : Nat} {v : Int32} (h : x ≠ 4) : setT T k v x = T x := by
  funext j
  exact if_neg (fun z => h z.1)
theorem q_set0 {w : Wd} {T : Tw} {b : Bl} {r p n x : Nat} {u : Us} {t : Nat → Int32} {L : List Int64} (h : CQ w T b r p u t n L) (h5 : T 4 2 = 5) (hx : x < 30) : ∃ w1, P_X10_set 10000 w 0 (nI (x + 1)) = some (5, w1) ∧ CQ w1 (setT T 2 (nI (x + 1))) b r p u t n L := by
  obtain ⟨w1, e, g⟩ := q_set h 0 (nI (x + 1))
  have z : qSet T 0 (nI (x + 1)) = (5, setT T 2 (nI (x + 1))) := by
    unfold qSet
    rw [if_pos rfl, if_neg (show ¬ nI (x + 1) < 1 from nI_nlt (a := x + 1) (b := 1) (by omega) (by omega)), if_neg (show ¬ 30 < nI (x + 1) from nI_nlt (a := 30) (b := x + 1) (by omega) (by decide)), h5]
  rw [z] at e g
  exact ⟨w1, e, g⟩
theorem q_set1 {w : Wd} {T : Tw} {b : Bl} {r p n x : Nat} {u : Us} {t : Nat → Int32} {L : List Int64} (h : CQ w T b r p u t n L) (h5 : T 4 3 = 0) (hx : x < 10) : ∃ w1, P_X10_set 10000 w 1 (nI x) = some (0, w1) ∧ CQ w1 (setT T 3 (nI x)) b r p u t n L := by
  obtain ⟨w1, e, g⟩ := q_set h 1 (nI x)
  have z : qSet T 1 (nI x) = (0, setT T 3 (nI x)) := by
    unfold qSet
    rw [if_neg (by decide), if_pos rfl, if_neg (nI_pos (by omega)), if_neg (show ¬ 9 < nI x from nI_nlt (a := 9) (b := x) (by omega) (by decide)), h5]
  rw [z] at e g
  exact ⟨w1, e, g⟩
theorem q_set2 {w : Wd} {T : Tw} {b : Bl} {r p n x : Nat} {u : Us} {t : Nat → Int32} {L : List Int64} (h : CQ w T b r p u t n L) (h5 : T 4 4 = 2) (hx : x < 10) : ∃ w1, P_X10_set 10000 w 2 (nI x) = some (2, w1) ∧ CQ w1 (setT T 4 (nI x)) b r p u t n L := by
  obtain ⟨w1, e, g⟩ := q_set h 2 (nI x)
  have z : qSet T 2 (nI x) = (2, setT T 4 (nI x)) := by
    unfold qSet
    rw [if_neg (by decide), if_neg (by decide), if_pos rfl, if_neg (nI_pos (by omega)), if_neg (show ¬ 9 < nI x from nI_nlt (a := 9) (b := x) (by omega) (by decide)), h5]
  rw [z] at e g
  exact ⟨w1, e, g⟩
theorem tk_15 (n : Nat) (q : Bl) (x : Int32) : (tkP n q x).2 15 = q 15 := by
  unfold tkP
  split
  · rfl
  · split
    · rfl
    · split
      · split <;> rfl
      · rfl
theorem nz_n {n : Nat} (h0 : 0 < n) (h : n < 2 ^ 31) : neZ (nI n) = true := by
  unfold neZ
  rw [decide_eq_false (nI_ne0 h0 h)]
  rfl
theorem cntL_nn (T : Tw) (q : Bl) : ∀ k, ∃ c, c ≤ k ∧ cntL T q k = nI c := by
  intro k
  induction k with
  | zero => exact ⟨0, Nat.le_refl _, rfl⟩
  | succ k ih =>
    obtain ⟨c, c1, c2⟩ := ih
    rw [cntL]
    split
    · exact ⟨c, by omega, c2⟩
    · exact ⟨c + 1, by omega, by rw [c2]; exact nI_1 c⟩
theorem q_min {w : Wd} {T : Tw} {b : Bl} {r p n m : Nat} {u : Us} {t : Nat → Int32} {L : List Int64} (h : CQ w T b r p u t n L) (hm : m ≤ 120) : ∃ w1, P_X10_minutes 10000 w (nI m) = some (cntL T b m, w1) ∧ CQ w1 T (itM T m b) r p (psh b u) t n [i64 (itM T m b 13 - b 13), i64 (itM T m b 15 &&& (b 15 ^^^ (-1)))] := by
  obtain ⟨w1, e, g⟩ := q_minutes h (nI m)
  have z : psP T b (nI m) = (cntL T b m, itM T m b) := by
    unfold psP
    rw [if_neg (nI_pos (by omega)), if_pos (show nI m ≤ 120 from nI_le (a := m) (b := 120) hm (by decide)), nI_clamp (by omega), cntL_eq]
  obtain ⟨c, c1, c2⟩ := cntL_nn T b m
  have hn : ¬ cntL T b m < 0 := by rw [c2]; exact nI_pos (by omega)
  have z2 : qMin T b (nI m) = (cntL T b m, some [i64 (itM T m b 13 - b 13), i64 (itM T m b 15 &&& (b 15 ^^^ (-1)))]) := by
    unfold qMin
    rw [z, if_neg hn]
  rw [z2] at e g
  rw [z] at g
  unfold pshU at g
  rw [if_neg hn] at g
  exact ⟨w1, e, g⟩
theorem and_m1 (x : Int32) : x &&& (0 ^^^ (-1)) = x := by
  rw [show ((0 : Int32) ^^^ (-1)) = -1 from by decide]
  exact Int32.and_neg_one
theorem row2 (f : Nat → Int64) (x y : Int64) : ∀ k, k < 2 → [x, y].getD k 0 = vp_updL (vp_updL f (0 : Int32).toNatClampNeg x) (1 : Int32).toNatClampNeg y k := by
  intro k hk
  match k, hk with
  | 0, _ => rfl
  | 1, _ => rfl
set_option maxHeartbeats 8000000 in
theorem bu_6 {X : Cx} {S : Sx} {K : Kx} {A : Nat → Prop} {E : Ex} {sc N : Nat} {xs : Nat → Int32} (hE : Stb E) (hF : ∀ (A : Nat → Prop) (s : State), E A s → KF S K A s s.heap) (hx : ∀ (A : Nat → Prop) (s : State), E A s → EX S K sc N xs A s) (hV : ∀ (A : Nat → Prop) (s : State), E A s → PVs s) (hN : N < 2 ^ 31) (hX : Yok X S K A cX12_build RX12 14 rmY_X12_build) (hE2 : YE X A E)  {b n p rr o1 t1 a0 a1 a2 a3 : Nat} (hn : n ≤ 8) (hp : p ≤ 8) (hrr : rr < 8) {ra rb : Nat → Nat} {q : Bl} {w : Wd} {T : Tw} {u : Us} {t : Nat → Int32} {L : List Int64} (hq : QzB q) (hb : BT T rr) (g : CQ w T q n p u t 0 L) (kk : ∀ (w1 : Wd) (T1 : Tw) (c : Int32), RuOk T1 (nI rr) → CQ w1 T1 q n p u t 0 L → Y X S K A 86 721 [wsOf S w1, stB S n p (ad4 a0 a1 a2 a3) q, bnC S K n p (ad4 b o1 t1 t1) ra rb (T1 4 2) (T1 4 3) (T1 4 4) (nI rr), rwC S n ra (T1 0) (T1 1), rwC S p rb (T1 2) (T1 3)] 611 [(12, .int (nI 0)), (11, .int c), (6, .ref ((ad4 a0 a1 a2 a3) 0)), (5, .int (nI n)), (0, .ref ((ad4 b o1 t1 t1) 0)), (1, rf S 0), (2, .ref sc), (3, .int 8), (4, .int 8)] []) : Y X S K A 86 721 [wsOf S w, [(b, .inr (14, [.ref o1, .ref t1, .int 0, .int 0, .int 0, .int (nI rr)]))], [(o1, .inl (K.1 1, n, .inr (.inr (.inr (.inr (outC n ra))))))], [(a0, .inr (13, [.ref a1, .ref a2, .int 50, .int 0, .int 0, .int 0, .int 0, .int 0, .ref a3]))], [(a1, .inl (cAr S 0, n, .inl (tir q)))], [(a2, .inl (cAr S 2, n, .inl (fun _ => 0)))], rwC S n ra (T 0) (T 1), [(t1, .inl (K.1 1, p, .inr (.inr (.inr (.inr (outC p rb))))))], [(a3, .inl (cAr S 2, p, .inl (fun _ => 0)))], rwC S p rb (T 2) (T 3)] 491 [(6, .ref a0), (5, .int (nI n)), (0, .ref b), (1, rf S 0), (2, .ref sc), (3, .int 8), (4, .int 8)] [] := by
  obtain ⟨fr, hfr, efr⟩ : ∃ z9 : Nat, z9 < 10 ∧ fmI (ishrI (cellI N xs 17) 5) 10 = nI z9 := fm_of _ (m := 10) (by decide) (by decide)
  refine Y_aload_n hX dX12_build_491 4 rfl ?_
  refine Y_bipush (v := 17) hX dX12_build_492 (by decide) ?_
  refine Y_resi hX (sub := []) (rst := [wsOf S w, [(b, .inr (14, [.ref o1, .ref t1, .int 0, .int 0, .int 0, .int (nI rr)]))], [(o1, .inl (K.1 1, n, .inr (.inr (.inr (.inr (outC n ra))))))], [(a0, .inr (13, [.ref a1, .ref a2, .int 50, .int 0, .int 0, .int 0, .int 0, .int 0, .ref a3]))], [(a1, .inl (cAr S 0, n, .inl (tir q)))], [(a2, .inl (cAr S 2, n, .inl (fun _ => 0)))], rwC S n ra (T 0) (T 1), [(t1, .inl (K.1 1, p, .inr (.inr (.inr (.inr (outC p rb))))))], [(a3, .inl (cAr S 2, p, .inl (fun _ => 0)))], rwC S p rb (T 2) (T 3)]) rfl (Y_runS (As := [.ref sc, .int 17]) (rest := []) hX hE2 mk_X12_139 nkY_X12_cell hE (cY_X12_cell hE hF hx hN 17 (by omega)) rfl Ecall.same ⟨rfl, rfl⟩ ⟨Nat.le_of_ble_eq_true rfl, Nat.le_of_ble_eq_true rfl⟩ rfl rfl (Nat.le_of_ble_eq_true rfl) dX12_build_494 ⟨by show _ ≤ 400; omega, by show _ ≤ 4000; omega⟩) (fun u494 => ?_)
  show Y X S K A 86 721 [wsOf S w, [(b, .inr (14, [.ref o1, .ref t1, .int 0, .int 0, .int 0, .int (nI rr)]))], [(o1, .inl (K.1 1, n, .inr (.inr (.inr (.inr (outC n ra))))))], [(a0, .inr (13, [.ref a1, .ref a2, .int 50, .int 0, .int 0, .int 0, .int 0, .int 0, .ref a3]))], [(a1, .inl (cAr S 0, n, .inl (tir q)))], [(a2, .inl (cAr S 2, n, .inl (fun _ => 0)))], rwC S n ra (T 0) (T 1), [(t1, .inl (K.1 1, p, .inr (.inr (.inr (.inr (outC p rb))))))], [(a3, .inl (cAr S 2, p, .inl (fun _ => 0)))], rwC S p rb (T 2) (T 3)] 497 [(6, .ref a0), (5, .int (nI n)), (0, .ref b), (1, rf S 0), (2, .ref sc), (3, .int 8), (4, .int 8)] [.int (cellI N xs 17)]
  refine Y_istore (lv' := [(11, .int (cellI N xs 17)), (6, .ref a0), (5, .int (nI n)), (0, .ref b), (1, rf S 0), (2, .ref sc), (3, .int 8), (4, .int 8)]) hX dX12_build_497 (by decide) rfl ?_
  refine Y_aload_n hX dX12_build_499 3 rfl ?_
  refine Y_iconst (v := 1) hX dX12_build_500 (by decide) ?_
  refine Y_iload hX dX12_build_501 0 rfl ?_
  refine Y_iload hX dX12_build_503 0 rfl ?_
  refine Y_bipush (v := 10) hX dX12_build_505 (by decide) ?_
  refine Y_ishr hX dX12_build_507 ?_
  refine Y_iconst (v := 1) hX dX12_build_508 (by decide) ?_
  refine Y_iand hX dX12_build_509 ?_
  refine Y_if_ne (tgt := 518) hX dX12_build_510 (by decide) (fun h510 => ?_) (fun h510 => ?_)
  · refine Y_bipush (v := 30) hX dX12_build_518 (by decide) ?_
    obtain ⟨wg, hwg, ewg⟩ : ∃ z9 : Nat, z9 < 30 ∧ fmI (cellI N xs 17) 30 = nI z9 := fm_of _ (m := 30) (by decide) (by decide)
    replace hwg : wg < 30 := by omega
    refine Y_resi hX (sub := []) (rst := [wsOf S w, [(b, .inr (14, [.ref o1, .ref t1, .int 0, .int 0, .int 0, .int (nI rr)]))], [(o1, .inl (K.1 1, n, .inr (.inr (.inr (.inr (outC n ra))))))], [(a0, .inr (13, [.ref a1, .ref a2, .int 50, .int 0, .int 0, .int 0, .int 0, .int 0, .ref a3]))], [(a1, .inl (cAr S 0, n, .inl (tir q)))], [(a2, .inl (cAr S 2, n, .inl (fun _ => 0)))], rwC S n ra (T 0) (T 1), [(t1, .inl (K.1 1, p, .inr (.inr (.inr (.inr (outC p rb))))))], [(a3, .inl (cAr S 2, p, .inl (fun _ => 0)))], rwC S p rb (T 2) (T 3)]) rfl (Y_runS (As := [.int (cellI N xs 17), .int 30]) (rest := [.int 1, .ref b]) hX hE2 mk_X12_143 nkY_J9_floorMod_7cf53 hE (cY_J9_floorMod_7cf53 hE hF (cellI N xs 17) 30 (by decide)) rfl Ecall.same ⟨rfl, rfl⟩ ⟨Nat.le_of_ble_eq_true rfl, Nat.le_of_ble_eq_true rfl⟩ rfl rfl (Nat.le_of_ble_eq_true rfl) dX12_build_520 ⟨by show _ ≤ 400; omega, by show _ ≤ 4000; omega⟩) (fun u520 => ?_)
    show Y X S K A 86 721 [wsOf S w, [(b, .inr (14, [.ref o1, .ref t1, .int 0, .int 0, .int 0, .int (nI rr)]))], [(o1, .inl (K.1 1, n, .inr (.inr (.inr (.inr (outC n ra))))))], [(a0, .inr (13, [.ref a1, .ref a2, .int 50, .int 0, .int 0, .int 0, .int 0, .int 0, .ref a3]))], [(a1, .inl (cAr S 0, n, .inl (tir q)))], [(a2, .inl (cAr S 2, n, .inl (fun _ => 0)))], rwC S n ra (T 0) (T 1), [(t1, .inl (K.1 1, p, .inr (.inr (.inr (.inr (outC p rb))))))], [(a3, .inl (cAr S 2, p, .inl (fun _ => 0)))], rwC S p rb (T 2) (T 3)] 523 [(11, .int (cellI N xs 17)), (6, .ref a0), (5, .int (nI n)), (0, .ref b), (1, rf S 0), (2, .ref sc), (3, .int 8), (4, .int 8)] [.int (fmI (cellI N xs 17) 30), .int 1, .ref b]
    refine Y_eqi (x' := nI wg) (ewg) ?_
    refine Y_iadd hX dX12_build_523 ?_
    refine Y_eqi (x' := nI (wg + 1)) (one_k wg) ?_
    refine Y_put 1 0 hX fw_X12_64 rfl rfl ⟨rfl, rfl, Nat.le_of_ble_eq_true rfl⟩ dX12_build_524 ?_
    show Y X S K A 86 721 [wsOf S w, [(b, .inr (14, [.ref o1, .ref t1, .int (nI (wg + 1)), .int 0, .int 0, .int (nI rr)]))], [(o1, .inl (K.1 1, n, .inr (.inr (.inr (.inr (outC n ra))))))], [(a0, .inr (13, [.ref a1, .ref a2, .int 50, .int 0, .int 0, .int 0, .int 0, .int 0, .ref a3]))], [(a1, .inl (cAr S 0, n, .inl (tir q)))], [(a2, .inl (cAr S 2, n, .inl (fun _ => 0)))], rwC S n ra (T 0) (T 1), [(t1, .inl (K.1 1, p, .inr (.inr (.inr (.inr (outC p rb))))))], [(a3, .inl (cAr S 2, p, .inl (fun _ => 0)))], rwC S p rb (T 2) (T 3)] 527 [(11, .int (cellI N xs 17)), (6, .ref a0), (5, .int (nI n)), (0, .ref b), (1, rf S 0), (2, .ref sc), (3, .int 8), (4, .int 8)] []
    refine Y_aload_n hX dX12_build_527 3 rfl ?_
    refine Y_iload hX dX12_build_528 0 rfl ?_
    refine Y_iconst (v := 5) hX dX12_build_530 (by decide) ?_
    refine Y_ishr hX dX12_build_531 ?_
    refine Y_bipush (v := 10) hX dX12_build_532 (by decide) ?_
    refine Y_resi hX (sub := []) (rst := [wsOf S w, [(b, .inr (14, [.ref o1, .ref t1, .int (nI (wg + 1)), .int 0, .int 0, .int (nI rr)]))], [(o1, .inl (K.1 1, n, .inr (.inr (.inr (.inr (outC n ra))))))], [(a0, .inr (13, [.ref a1, .ref a2, .int 50, .int 0, .int 0, .int 0, .int 0, .int 0, .ref a3]))], [(a1, .inl (cAr S 0, n, .inl (tir q)))], [(a2, .inl (cAr S 2, n, .inl (fun _ => 0)))], rwC S n ra (T 0) (T 1), [(t1, .inl (K.1 1, p, .inr (.inr (.inr (.inr (outC p rb))))))], [(a3, .inl (cAr S 2, p, .inl (fun _ => 0)))], rwC S p rb (T 2) (T 3)]) rfl (Y_runS (As := [.int (ishrI (cellI N xs 17) 5), .int 10]) (rest := [.ref b]) hX hE2 mk_X12_143 nkY_J9_floorMod_7cf53 hE (cY_J9_floorMod_7cf53 hE hF (ishrI (cellI N xs 17) 5) 10 (by decide)) rfl Ecall.same ⟨rfl, rfl⟩ ⟨Nat.le_of_ble_eq_true rfl, Nat.le_of_ble_eq_true rfl⟩ rfl rfl (Nat.le_of_ble_eq_true rfl) dX12_build_534 ⟨by show _ ≤ 400; omega, by show _ ≤ 4000; omega⟩) (fun u534 => ?_)
    show Y X S K A 86 721 [wsOf S w, [(b, .inr (14, [.ref o1, .ref t1, .int (nI (wg + 1)), .int 0, .int 0, .int (nI rr)]))], [(o1, .inl (K.1 1, n, .inr (.inr (.inr (.inr (outC n ra))))))], [(a0, .inr (13, [.ref a1, .ref a2, .int 50, .int 0, .int 0, .int 0, .int 0, .int 0, .ref a3]))], [(a1, .inl (cAr S 0, n, .inl (tir q)))], [(a2, .inl (cAr S 2, n, .inl (fun _ => 0)))], rwC S n ra (T 0) (T 1), [(t1, .inl (K.1 1, p, .inr (.inr (.inr (.inr (outC p rb))))))], [(a3, .inl (cAr S 2, p, .inl (fun _ => 0)))], rwC S p rb (T 2) (T 3)] 537 [(11, .int (cellI N xs 17)), (6, .ref a0), (5, .int (nI n)), (0, .ref b), (1, rf S 0), (2, .ref sc), (3, .int 8), (4, .int 8)] [.int (fmI (ishrI (cellI N xs 17) 5) 10), .ref b]
    refine Y_eqi (x' := nI fr) (efr) ?_
    refine Y_put 1 0 hX fw_X12_67 rfl rfl ⟨rfl, rfl, Nat.le_of_ble_eq_true rfl⟩ dX12_build_537 ?_
    show Y X S K A 86 721 [wsOf S w, [(b, .inr (14, [.ref o1, .ref t1, .int (nI (wg + 1)), .int (nI fr), .int 0, .int (nI rr)]))], [(o1, .inl (K.1 1, n, .inr (.inr (.inr (.inr (outC n ra))))))], [(a0, .inr (13, [.ref a1, .ref a2, .int 50, .int 0, .int 0, .int 0, .int 0, .int 0, .ref a3]))], [(a1, .inl (cAr S 0, n, .inl (tir q)))], [(a2, .inl (cAr S 2, n, .inl (fun _ => 0)))], rwC S n ra (T 0) (T 1), [(t1, .inl (K.1 1, p, .inr (.inr (.inr (.inr (outC p rb))))))], [(a3, .inl (cAr S 2, p, .inl (fun _ => 0)))], rwC S p rb (T 2) (T 3)] 540 [(11, .int (cellI N xs 17)), (6, .ref a0), (5, .int (nI n)), (0, .ref b), (1, rf S 0), (2, .ref sc), (3, .int 8), (4, .int 8)] []
    refine Y_aload_n hX dX12_build_540 3 rfl ?_
    refine Y_iload hX dX12_build_541 0 rfl ?_
    refine Y_bipush (v := 11) hX dX12_build_543 (by decide) ?_
    refine Y_ishr hX dX12_build_545 ?_
    refine Y_iload hX dX12_build_546 0 rfl ?_
    refine Y_bipush (v := 15) hX dX12_build_548 (by decide) ?_
    refine Y_ishr hX dX12_build_550 ?_
    refine Y_iconst (v := 1) hX dX12_build_551 (by decide) ?_
    refine Y_iand hX dX12_build_552 ?_
    refine Y_if_ne (tgt := 560) hX dX12_build_553 (by decide) (fun h553 => ?_) (fun h553 => ?_)
    · refine Y_bipush (v := 10) hX dX12_build_560 (by decide) ?_
      obtain ⟨mo, hmo, emo⟩ : ∃ z9 : Nat, z9 < 10 ∧ fmI (ishrI (cellI N xs 17) 11) 10 = nI z9 := fm_of _ (m := 10) (by decide) (by decide)
      replace hmo : mo < 10 := by omega
      refine Y_resi hX (sub := []) (rst := [wsOf S w, [(b, .inr (14, [.ref o1, .ref t1, .int (nI (wg + 1)), .int (nI fr), .int 0, .int (nI rr)]))], [(o1, .inl (K.1 1, n, .inr (.inr (.inr (.inr (outC n ra))))))], [(a0, .inr (13, [.ref a1, .ref a2, .int 50, .int 0, .int 0, .int 0, .int 0, .int 0, .ref a3]))], [(a1, .inl (cAr S 0, n, .inl (tir q)))], [(a2, .inl (cAr S 2, n, .inl (fun _ => 0)))], rwC S n ra (T 0) (T 1), [(t1, .inl (K.1 1, p, .inr (.inr (.inr (.inr (outC p rb))))))], [(a3, .inl (cAr S 2, p, .inl (fun _ => 0)))], rwC S p rb (T 2) (T 3)]) rfl (Y_runS (As := [.int (ishrI (cellI N xs 17) 11), .int 10]) (rest := [.ref b]) hX hE2 mk_X12_143 nkY_J9_floorMod_7cf53 hE (cY_J9_floorMod_7cf53 hE hF (ishrI (cellI N xs 17) 11) 10 (by decide)) rfl Ecall.same ⟨rfl, rfl⟩ ⟨Nat.le_of_ble_eq_true rfl, Nat.le_of_ble_eq_true rfl⟩ rfl rfl (Nat.le_of_ble_eq_true rfl) dX12_build_562 ⟨by show _ ≤ 400; omega, by show _ ≤ 4000; omega⟩) (fun u562 => ?_)
      show Y X S K A 86 721 [wsOf S w, [(b, .inr (14, [.ref o1, .ref t1, .int (nI (wg + 1)), .int (nI fr), .int 0, .int (nI rr)]))], [(o1, .inl (K.1 1, n, .inr (.inr (.inr (.inr (outC n ra))))))], [(a0, .inr (13, [.ref a1, .ref a2, .int 50, .int 0, .int 0, .int 0, .int 0, .int 0, .ref a3]))], [(a1, .inl (cAr S 0, n, .inl (tir q)))], [(a2, .inl (cAr S 2, n, .inl (fun _ => 0)))], rwC S n ra (T 0) (T 1), [(t1, .inl (K.1 1, p, .inr (.inr (.inr (.inr (outC p rb))))))], [(a3, .inl (cAr S 2, p, .inl (fun _ => 0)))], rwC S p rb (T 2) (T 3)] 565 [(11, .int (cellI N xs 17)), (6, .ref a0), (5, .int (nI n)), (0, .ref b), (1, rf S 0), (2, .ref sc), (3, .int 8), (4, .int 8)] [.int (fmI (ishrI (cellI N xs 17) 11) 10), .ref b]
      refine Y_eqi (x' := nI mo) (emo) ?_
      refine Y_put 1 0 hX fw_X12_99 rfl rfl ⟨rfl, rfl, Nat.le_of_ble_eq_true rfl⟩ dX12_build_565 ?_
      show Y X S K A 86 721 [wsOf S w, [(b, .inr (14, [.ref o1, .ref t1, .int (nI (wg + 1)), .int (nI fr), .int (nI mo), .int (nI rr)]))], [(o1, .inl (K.1 1, n, .inr (.inr (.inr (.inr (outC n ra))))))], [(a0, .inr (13, [.ref a1, .ref a2, .int 50, .int 0, .int 0, .int 0, .int 0, .int 0, .ref a3]))], [(a1, .inl (cAr S 0, n, .inl (tir q)))], [(a2, .inl (cAr S 2, n, .inl (fun _ => 0)))], rwC S n ra (T 0) (T 1), [(t1, .inl (K.1 1, p, .inr (.inr (.inr (.inr (outC p rb))))))], [(a3, .inl (cAr S 2, p, .inl (fun _ => 0)))], rwC S p rb (T 2) (T 3)] 568 [(11, .int (cellI N xs 17)), (6, .ref a0), (5, .int (nI n)), (0, .ref b), (1, rf S 0), (2, .ref sc), (3, .int 8), (4, .int 8)] []
      refine Y_aload_n hX dX12_build_568 4 rfl ?_
      refine Y_iconst (v := 0) hX dX12_build_569 (by decide) ?_
      refine Y_aload_n hX dX12_build_570 3 rfl ?_
      refine Y_get 1 0 hX fk_X12_64 rfl rfl rfl dX12_build_571 ?_
      obtain ⟨w574, e574, g574⟩ := q_set0 g hb.1 hwg
      refine Y_callCi (w2 := w574) (v := 5) (As := [.int 0, .int (nI (wg + 1))]) (rest := []) hX hE2 hF mk_X12_183 nk_X10_set (fun l => c_X10_set l S e574) rfl tb_0 rfl ⟨rfl, rfl, Nat.le_of_ble_eq_true rfl, Nat.le_of_ble_eq_true rfl⟩ rfl rfl (Nat.le_of_ble_eq_true rfl) dX12_build_574 ⟨by show _ ≤ 400; omega, by show _ ≤ 4000; omega⟩ ?_
      show Y X S K A 86 721 [wsOf S w574, [(b, .inr (14, [.ref o1, .ref t1, .int (nI (wg + 1)), .int (nI fr), .int (nI mo), .int (nI rr)]))], [(o1, .inl (K.1 1, n, .inr (.inr (.inr (.inr (outC n ra))))))], [(a0, .inr (13, [.ref a1, .ref a2, .int 50, .int 0, .int 0, .int 0, .int 0, .int 0, .ref a3]))], [(a1, .inl (cAr S 0, n, .inl (tir q)))], [(a2, .inl (cAr S 2, n, .inl (fun _ => 0)))], rwC S n ra (T 0) (T 1), [(t1, .inl (K.1 1, p, .inr (.inr (.inr (.inr (outC p rb))))))], [(a3, .inl (cAr S 2, p, .inl (fun _ => 0)))], rwC S p rb (T 2) (T 3)] 577 [(11, .int (cellI N xs 17)), (6, .ref a0), (5, .int (nI n)), (0, .ref b), (1, rf S 0), (2, .ref sc), (3, .int 8), (4, .int 8)] [.int 5]
      refine Y_iconst (v := 5) hX dX12_build_577 (by decide) ?_
      refine Y_icmp_ne (tgt := 606) hX dX12_build_578 (by decide) (fun z => absurd rfl z) (fun _ => ?_)
      refine Y_aload_n hX dX12_build_581 4 rfl ?_
      refine Y_iconst (v := 1) hX dX12_build_582 (by decide) ?_
      refine Y_aload_n hX dX12_build_583 3 rfl ?_
      refine Y_get 1 0 hX fk_X12_67 rfl rfl rfl dX12_build_584 ?_
      obtain ⟨w587, e587, g587⟩ := q_set1 g574 hb.2.1 hfr
      refine Y_callCi (w2 := w587) (v := 0) (As := [.int 1, .int (nI fr)]) (rest := []) hX hE2 hF mk_X12_183 nk_X10_set (fun l => c_X10_set l S e587) rfl tb_0 rfl ⟨rfl, rfl, Nat.le_of_ble_eq_true rfl, Nat.le_of_ble_eq_true rfl⟩ rfl rfl (Nat.le_of_ble_eq_true rfl) dX12_build_587 ⟨by show _ ≤ 400; omega, by show _ ≤ 4000; omega⟩ ?_
      show Y X S K A 86 721 [wsOf S w587, [(b, .inr (14, [.ref o1, .ref t1, .int (nI (wg + 1)), .int (nI fr), .int (nI mo), .int (nI rr)]))], [(o1, .inl (K.1 1, n, .inr (.inr (.inr (.inr (outC n ra))))))], [(a0, .inr (13, [.ref a1, .ref a2, .int 50, .int 0, .int 0, .int 0, .int 0, .int 0, .ref a3]))], [(a1, .inl (cAr S 0, n, .inl (tir q)))], [(a2, .inl (cAr S 2, n, .inl (fun _ => 0)))], rwC S n ra (T 0) (T 1), [(t1, .inl (K.1 1, p, .inr (.inr (.inr (.inr (outC p rb))))))], [(a3, .inl (cAr S 2, p, .inl (fun _ => 0)))], rwC S p rb (T 2) (T 3)] 590 [(11, .int (cellI N xs 17)), (6, .ref a0), (5, .int (nI n)), (0, .ref b), (1, rf S 0), (2, .ref sc), (3, .int 8), (4, .int 8)] [.int 0]
      refine Y_if_ne (tgt := 606) hX dX12_build_590 (by decide) (fun z => absurd rfl z) (fun _ => ?_)
      refine Y_aload_n hX dX12_build_593 4 rfl ?_
      refine Y_iconst (v := 2) hX dX12_build_594 (by decide) ?_
      refine Y_aload_n hX dX12_build_595 3 rfl ?_
      refine Y_get 1 0 hX fk_X12_99 rfl rfl rfl dX12_build_596 ?_
      obtain ⟨w599, e599, g599⟩ := q_set2 g587 hb.2.2.1 hmo
      refine Y_callCi (w2 := w599) (v := 2) (As := [.int 2, .int (nI mo)]) (rest := []) hX hE2 hF mk_X12_183 nk_X10_set (fun l => c_X10_set l S e599) rfl tb_0 rfl ⟨rfl, rfl, Nat.le_of_ble_eq_true rfl, Nat.le_of_ble_eq_true rfl⟩ rfl rfl (Nat.le_of_ble_eq_true rfl) dX12_build_599 ⟨by show _ ≤ 400; omega, by show _ ≤ 4000; omega⟩ ?_
      show Y X S K A 86 721 [wsOf S w599, [(b, .inr (14, [.ref o1, .ref t1, .int (nI (wg + 1)), .int (nI fr), .int (nI mo), .int (nI rr)]))], [(o1, .inl (K.1 1, n, .inr (.inr (.inr (.inr (outC n ra))))))], [(a0, .inr (13, [.ref a1, .ref a2, .int 50, .int 0, .int 0, .int 0, .int 0, .int 0, .ref a3]))], [(a1, .inl (cAr S 0, n, .inl (tir q)))], [(a2, .inl (cAr S 2, n, .inl (fun _ => 0)))], rwC S n ra (T 0) (T 1), [(t1, .inl (K.1 1, p, .inr (.inr (.inr (.inr (outC p rb))))))], [(a3, .inl (cAr S 2, p, .inl (fun _ => 0)))], rwC S p rb (T 2) (T 3)] 602 [(11, .int (cellI N xs 17)), (6, .ref a0), (5, .int (nI n)), (0, .ref b), (1, rf S 0), (2, .ref sc), (3, .int 8), (4, .int 8)] [.int 2]
      refine Y_iconst (v := 2) hX dX12_build_602 (by decide) ?_
      refine Y_icmp_eq (tgt := 608) hX dX12_build_603 (by decide) (fun _ => ?_) (fun z => absurd rfl z)
      refine Y_iconst (v := 0) hX dX12_build_608 (by decide) ?_
      refine Y_istore (lv' := [(12, .int 0), (11, .int (cellI N xs 17)), (6, .ref a0), (5, .int (nI n)), (0, .ref b), (1, rf S 0), (2, .ref sc), (3, .int 8), (4, .int 8)]) hX dX12_build_609 (by decide) rfl ?_
      refine Y_pick (bl' := [wsOf S w599, [(a0, .inr (13, [.ref a1, .ref a2, .int 50, .int 0, .int 0, .int 0, .int 0, .int 0, .ref a3]))], [(a1, .inl (cAr S 0, n, .inl (tir q)))], [(a2, .inl (cAr S 2, n, .inl (fun _ => 0)))], [(a3, .inl (cAr S 2, p, .inl (fun _ => 0)))], [(b, .inr (14, [.ref o1, .ref t1, .int (nI (wg + 1)), .int (nI fr), .int (nI mo), .int (nI rr)]))], [(o1, .inl (K.1 1, n, .inr (.inr (.inr (.inr (outC n ra))))))], [(t1, .inl (K.1 1, p, .inr (.inr (.inr (.inr (outC p rb))))))], rwC S n ra (T 0) (T 1), rwC S p rb (T 2) (T 3)]) [0, 3, 4, 5, 8, 1, 2, 7, 6, 9] (by decide) rfl ?_
      refine Y_fl (bl' := [wsOf S w599, stB S n p (ad4 a0 a1 a2 a3) q, bnC S K n p (ad4 b o1 t1 t1) ra rb ((setT (setT (setT T 2 (nI (wg + 1))) 3 (nI fr)) 4 (nI mo)) 4 2) ((setT (setT (setT T 2 (nI (wg + 1))) 3 (nI fr)) 4 (nI mo)) 4 3) ((setT (setT (setT T 2 (nI (wg + 1))) 3 (nI fr)) 4 (nI mo)) 4 4) (nI rr), rwC S n ra ((setT (setT (setT T 2 (nI (wg + 1))) 3 (nI fr)) 4 (nI mo)) 0) ((setT (setT (setT T 2 (nI (wg + 1))) 3 (nI fr)) 4 (nI mo)) 1), rwC S p rb ((setT (setT (setT T 2 (nI (wg + 1))) 3 (nI fr)) 4 (nI mo)) 2) ((setT (setT (setT T 2 (nI (wg + 1))) 3 (nI fr)) 4 (nI mo)) 3)]) (by rw [stB_z hq, setT_x (x := 0) (by decide), setT_x (x := 0) (by decide), setT_x (x := 0) (by decide), setT_x (x := 1) (by decide), setT_x (x := 1) (by decide), setT_x (x := 1) (by decide), setT_x (x := 2) (by decide), setT_x (x := 2) (by decide), setT_x (x := 2) (by decide), setT_x (x := 3) (by decide), setT_x (x := 3) (by decide), setT_x (x := 3) (by decide)]; rfl) ?_
      exact kk w599 _ _ (RuOk_of hrr (by rw [setT_x (by decide), setT_x (by decide), setT_x (by decide)]; exact hb.2.2.2.1) (fun j hj => by rw [setT_x (by decide), setT_x (by decide), setT_x (by decide)]; exact hb.2.2.2.2 j hj)) g599
    · refine Y_iconst (v := 4) hX dX12_build_556 (by decide) ?_
      refine Y_goto (tgt := 562) hX dX12_build_557 (by decide) ?_
      obtain ⟨mo, hmo, emo⟩ : ∃ z9 : Nat, z9 < 4 ∧ fmI (ishrI (cellI N xs 17) 11) 4 = nI z9 := fm_of _ (m := 4) (by decide) (by decide)
      replace hmo : mo < 10 := by omega
      refine Y_resi hX (sub := []) (rst := [wsOf S w, [(b, .inr (14, [.ref o1, .ref t1, .int (nI (wg + 1)), .int (nI fr), .int 0, .int (nI rr)]))], [(o1, .inl (K.1 1, n, .inr (.inr (.inr (.inr (outC n ra))))))], [(a0, .inr (13, [.ref a1, .ref a2, .int 50, .int 0, .int 0, .int 0, .int 0, .int 0, .ref a3]))], [(a1, .inl (cAr S 0, n, .inl (tir q)))], [(a2, .inl (cAr S 2, n, .inl (fun _ => 0)))], rwC S n ra (T 0) (T 1), [(t1, .inl (K.1 1, p, .inr (.inr (.inr (.inr (outC p rb))))))], [(a3, .inl (cAr S 2, p, .inl (fun _ => 0)))], rwC S p rb (T 2) (T 3)]) rfl (Y_runS (As := [.int (ishrI (cellI N xs 17) 11), .int 4]) (rest := [.ref b]) hX hE2 mk_X12_143 nkY_J9_floorMod_7cf53 hE (cY_J9_floorMod_7cf53 hE hF (ishrI (cellI N xs 17) 11) 4 (by decide)) rfl Ecall.same ⟨rfl, rfl⟩ ⟨Nat.le_of_ble_eq_true rfl, Nat.le_of_ble_eq_true rfl⟩ rfl rfl (Nat.le_of_ble_eq_true rfl) dX12_build_562 ⟨by show _ ≤ 400; omega, by show _ ≤ 4000; omega⟩) (fun u562 => ?_)
      show Y X S K A 86 721 [wsOf S w, [(b, .inr (14, [.ref o1, .ref t1, .int (nI (wg + 1)), .int (nI fr), .int 0, .int (nI rr)]))], [(o1, .inl (K.1 1, n, .inr (.inr (.inr (.inr (outC n ra))))))], [(a0, .inr (13, [.ref a1, .ref a2, .int 50, .int 0, .int 0, .int 0, .int 0, .int 0, .ref a3]))], [(a1, .inl (cAr S 0, n, .inl (tir q)))], [(a2, .inl (cAr S 2, n, .inl (fun _ => 0)))], rwC S n ra (T 0) (T 1), [(t1, .inl (K.1 1, p, .inr (.inr (.inr (.inr (outC p rb))))))], [(a3, .inl (cAr S 2, p, .inl (fun _ => 0)))], rwC S p rb (T 2) (T 3)] 565 [(11, .int (cellI N xs 17)), (6, .ref a0), (5, .int (nI n)), (0, .ref b), (1, rf S 0), (2, .ref sc), (3, .int 8), (4, .int 8)] [.int (fmI (ishrI (cellI N xs 17) 11) 4), .ref b]
      refine Y_eqi (x' := nI mo) (emo) ?_
      refine Y_put 1 0 hX fw_X12_99 rfl rfl ⟨rfl, rfl, Nat.le_of_ble_eq_true rfl⟩ dX12_build_565 ?_
      show Y X S K A 86 721 [wsOf S w, [(b, .inr (14, [.ref o1, .ref t1, .int (nI (wg + 1)), .int (nI fr), .int (nI mo), .int (nI rr)]))], [(o1, .inl (K.1 1, n, .inr (.inr (.inr (.inr (outC n ra))))))], [(a0, .inr (13, [.ref a1, .ref a2, .int 50, .int 0, .int 0, .int 0, .int 0, .int 0, .ref a3]))], [(a1, .inl (cAr S 0, n, .inl (tir q)))], [(a2, .inl (cAr S 2, n, .inl (fun _ => 0)))], rwC S n ra (T 0) (T 1), [(t1, .inl (K.1 1, p, .inr (.inr (.inr (.inr (outC p rb))))))], [(a3, .inl (cAr S 2, p, .inl (fun _ => 0)))], rwC S p rb (T 2) (T 3)] 568 [(11, .int (cellI N xs 17)), (6, .ref a0), (5, .int (nI n)), (0, .ref b), (1, rf S 0), (2, .ref sc), (3, .int 8), (4, .int 8)] []
      refine Y_aload_n hX dX12_build_568 4 rfl ?_
      refine Y_iconst (v := 0) hX dX12_build_569 (by decide) ?_
      refine Y_aload_n hX dX12_build_570 3 rfl ?_
      refine Y_get 1 0 hX fk_X12_64 rfl rfl rfl dX12_build_571 ?_
      obtain ⟨w574, e574, g574⟩ := q_set0 g hb.1 hwg
      refine Y_callCi (w2 := w574) (v := 5) (As := [.int 0, .int (nI (wg + 1))]) (rest := []) hX hE2 hF mk_X12_183 nk_X10_set (fun l => c_X10_set l S e574) rfl tb_0 rfl ⟨rfl, rfl, Nat.le_of_ble_eq_true rfl, Nat.le_of_ble_eq_true rfl⟩ rfl rfl (Nat.le_of_ble_eq_true rfl) dX12_build_574 ⟨by show _ ≤ 400; omega, by show _ ≤ 4000; omega⟩ ?_
      show Y X S K A 86 721 [wsOf S w574, [(b, .inr (14, [.ref o1, .ref t1, .int (nI (wg + 1)), .int (nI fr), .int (nI mo), .int (nI rr)]))], [(o1, .inl (K.1 1, n, .inr (.inr (.inr (.inr (outC n ra))))))], [(a0, .inr (13, [.ref a1, .ref a2, .int 50, .int 0, .int 0, .int 0, .int 0, .int 0, .ref a3]))], [(a1, .inl (cAr S 0, n, .inl (tir q)))], [(a2, .inl (cAr S 2, n, .inl (fun _ => 0)))], rwC S n ra (T 0) (T 1), [(t1, .inl (K.1 1, p, .inr (.inr (.inr (.inr (outC p rb))))))], [(a3, .inl (cAr S 2, p, .inl (fun _ => 0)))], rwC S p rb (T 2) (T 3)] 577 [(11, .int (cellI N xs 17)), (6, .ref a0), (5, .int (nI n)), (0, .ref b), (1, rf S 0), (2, .ref sc), (3, .int 8), (4, .int 8)] [.int 5]
      refine Y_iconst (v := 5) hX dX12_build_577 (by decide) ?_
      refine Y_icmp_ne (tgt := 606) hX dX12_build_578 (by decide) (fun z => absurd rfl z) (fun _ => ?_)
      refine Y_aload_n hX dX12_build_581 4 rfl ?_
      refine Y_iconst (v := 1) hX dX12_build_582 (by decide) ?_
      refine Y_aload_n hX dX12_build_583 3 rfl ?_
      refine Y_get 1 0 hX fk_X12_67 rfl rfl rfl dX12_build_584 ?_
      obtain ⟨w587, e587, g587⟩ := q_set1 g574 hb.2.1 hfr
      refine Y_callCi (w2 := w587) (v := 0) (As := [.int 1, .int (nI fr)]) (rest := []) hX hE2 hF mk_X12_183 nk_X10_set (fun l => c_X10_set l S e587) rfl tb_0 rfl ⟨rfl, rfl, Nat.le_of_ble_eq_true rfl, Nat.le_of_ble_eq_true rfl⟩ rfl rfl (Nat.le_of_ble_eq_true rfl) dX12_build_587 ⟨by show _ ≤ 400; omega, by show _ ≤ 4000; omega⟩ ?_
      show Y X S K A 86 721 [wsOf S w587, [(b, .inr (14, [.ref o1, .ref t1, .int (nI (wg + 1)), .int (nI fr), .int (nI mo), .int (nI rr)]))], [(o1, .inl (K.1 1, n, .inr (.inr (.inr (.inr (outC n ra))))))], [(a0, .inr (13, [.ref a1, .ref a2, .int 50, .int 0, .int 0, .int 0, .int 0, .int 0, .ref a3]))], [(a1, .inl (cAr S 0, n, .inl (tir q)))], [(a2, .inl (cAr S 2, n, .inl (fun _ => 0)))], rwC S n ra (T 0) (T 1), [(t1, .inl (K.1 1, p, .inr (.inr (.inr (.inr (outC p rb))))))], [(a3, .inl (cAr S 2, p, .inl (fun _ => 0)))], rwC S p rb (T 2) (T 3)] 590 [(11, .int (cellI N xs 17)), (6, .ref a0), (5, .int (nI n)), (0, .ref b), (1, rf S 0), (2, .ref sc), (3, .int 8), (4, .int 8)] [.int 0]
      refine Y_if_ne (tgt := 606) hX dX12_build_590 (by decide) (fun z => absurd rfl z) (fun _ => ?_)
      refine Y_aload_n hX dX12_build_593 4 rfl ?_
      refine Y_iconst (v := 2) hX dX12_build_594 (by decide) ?_
      refine Y_aload_n hX dX12_build_595 3 rfl ?_
      refine Y_get 1 0 hX fk_X12_99 rfl rfl rfl dX12_build_596 ?_
      obtain ⟨w599, e599, g599⟩ := q_set2 g587 hb.2.2.1 hmo
      refine Y_callCi (w2 := w599) (v := 2) (As := [.int 2, .int (nI mo)]) (rest := []) hX hE2 hF mk_X12_183 nk_X10_set (fun l => c_X10_set l S e599) rfl tb_0 rfl ⟨rfl, rfl, Nat.le_of_ble_eq_true rfl, Nat.le_of_ble_eq_true rfl⟩ rfl rfl (Nat.le_of_ble_eq_true rfl) dX12_build_599 ⟨by show _ ≤ 400; omega, by show _ ≤ 4000; omega⟩ ?_
      show Y X S K A 86 721 [wsOf S w599, [(b, .inr (14, [.ref o1, .ref t1, .int (nI (wg + 1)), .int (nI fr), .int (nI mo), .int (nI rr)]))], [(o1, .inl (K.1 1, n, .inr (.inr (.inr (.inr (outC n ra))))))], [(a0, .inr (13, [.ref a1, .ref a2, .int 50, .int 0, .int 0, .int 0, .int 0, .int 0, .ref a3]))], [(a1, .inl (cAr S 0, n, .inl (tir q)))], [(a2, .inl (cAr S 2, n, .inl (fun _ => 0)))], rwC S n ra (T 0) (T 1), [(t1, .inl (K.1 1, p, .inr (.inr (.inr (.inr (outC p rb))))))], [(a3, .inl (cAr S 2, p, .inl (fun _ => 0)))], rwC S p rb (T 2) (T 3)] 602 [(11, .int (cellI N xs 17)), (6, .ref a0), (5, .int (nI n)), (0, .ref b), (1, rf S 0), (2, .ref sc), (3, .int 8), (4, .int 8)] [.int 2]
      refine Y_iconst (v := 2) hX dX12_build_602 (by decide) ?_
      refine Y_icmp_eq (tgt := 608) hX dX12_build_603 (by decide) (fun _ => ?_) (fun z => absurd rfl z)
      refine Y_iconst (v := 0) hX dX12_build_608 (by decide) ?_
      refine Y_istore (lv' := [(12, .int 0), (11, .int (cellI N xs 17)), (6, .ref a0), (5, .int (nI n)), (0, .ref b), (1, rf S 0), (2, .ref sc), (3, .int 8), (4, .int 8)]) hX dX12_build_609 (by decide) rfl ?_
      refine Y_pick (bl' := [wsOf S w599, [(a0, .inr (13, [.ref a1, .ref a2, .int 50, .int 0, .int 0, .int 0, .int 0, .int 0, .ref a3]))], [(a1, .inl (cAr S 0, n, .inl (tir q)))], [(a2, .inl (cAr S 2, n, .inl (fun _ => 0)))], [(a3, .inl (cAr S 2, p, .inl (fun _ => 0)))], [(b, .inr (14, [.ref o1, .ref t1, .int (nI (wg + 1)), .int (nI fr), .int (nI mo), .int (nI rr)]))], [(o1, .inl (K.1 1, n, .inr (.inr (.inr (.inr (outC n ra))))))], [(t1, .inl (K.1 1, p, .inr (.inr (.inr (.inr (outC p rb))))))], rwC S n ra (T 0) (T 1), rwC S p rb (T 2) (T 3)]) [0, 3, 4, 5, 8, 1, 2, 7, 6, 9] (by decide) rfl ?_
      refine Y_fl (bl' := [wsOf S w599, stB S n p (ad4 a0 a1 a2 a3) q, bnC S K n p (ad4 b o1 t1 t1) ra rb ((setT (setT (setT T 2 (nI (wg + 1))) 3 (nI fr)) 4 (nI mo)) 4 2) ((setT (setT (setT T 2 (nI (wg + 1))) 3 (nI fr)) 4 (nI mo)) 4 3) ((setT (setT (setT T 2 (nI (wg + 1))) 3 (nI fr)) 4 (nI mo)) 4 4) (nI rr), rwC S n ra ((setT (setT (setT T 2 (nI (wg + 1))) 3 (nI fr)) 4 (nI mo)) 0) ((setT (setT (setT T 2 (nI (wg + 1))) 3 (nI fr)) 4 (nI mo)) 1), rwC S p rb ((setT (setT (setT T 2 (nI (wg + 1))) 3 (nI fr)) 4 (nI mo)) 2) ((setT (setT (setT T 2 (nI (wg + 1))) 3 (nI fr)) 4 (nI mo)) 3)]) (by rw [stB_z hq, setT_x (x := 0) (by decide), setT_x (x := 0) (by decide), setT_x (x := 0) (by decide), setT_x (x := 1) (by decide), setT_x (x := 1) (by decide), setT_x (x := 1) (by decide), setT_x (x := 2) (by decide), setT_x (x := 2) (by decide), setT_x (x := 2) (by decide), setT_x (x := 3) (by decide), setT_x (x := 3) (by decide), setT_x (x := 3) (by decide)]; rfl) ?_
      exact kk w599 _ _ (RuOk_of hrr (by rw [setT_x (by decide), setT_x (by decide), setT_x (by decide)]; exact hb.2.2.2.1) (fun j hj => by rw [setT_x (by decide), setT_x (by decide), setT_x (by decide)]; exact hb.2.2.2.2 j hj)) g599
  · refine Y_bipush (v := 8) hX dX12_build_513 (by decide) ?_
    refine Y_goto (tgt := 520) hX dX12_build_515 (by decide) ?_
    obtain ⟨wg, hwg, ewg⟩ : ∃ z9 : Nat, z9 < 8 ∧ fmI (cellI N xs 17) 8 = nI z9 := fm_of _ (m := 8) (by decide) (by decide)
    replace hwg : wg < 30 := by omega
    refine Y_resi hX (sub := []) (rst := [wsOf S w, [(b, .inr (14, [.ref o1, .ref t1, .int 0, .int 0, .int 0, .int (nI rr)]))], [(o1, .inl (K.1 1, n, .inr (.inr (.inr (.inr (outC n ra))))))], [(a0, .inr (13, [.ref a1, .ref a2, .int 50, .int 0, .int 0, .int 0, .int 0, .int 0, .ref a3]))], [(a1, .inl (cAr S 0, n, .inl (tir q)))], [(a2, .inl (cAr S 2, n, .inl (fun _ => 0)))], rwC S n ra (T 0) (T 1), [(t1, .inl (K.1 1, p, .inr (.inr (.inr (.inr (outC p rb))))))], [(a3, .inl (cAr S 2, p, .inl (fun _ => 0)))], rwC S p rb (T 2) (T 3)]) rfl (Y_runS (As := [.int (cellI N xs 17), .int 8]) (rest := [.int 1, .ref b]) hX hE2 mk_X12_143 nkY_J9_floorMod_7cf53 hE (cY_J9_floorMod_7cf53 hE hF (cellI N xs 17) 8 (by decide)) rfl Ecall.same ⟨rfl, rfl⟩ ⟨Nat.le_of_ble_eq_true rfl, Nat.le_of_ble_eq_true rfl⟩ rfl rfl (Nat.le_of_ble_eq_true rfl) dX12_build_520 ⟨by show _ ≤ 400; omega, by show _ ≤ 4000; omega⟩) (fun u520 => ?_)
    show Y X S K A 86 721 [wsOf S w, [(b, .inr (14, [.ref o1, .ref t1, .int 0, .int 0, .int 0, .int (nI rr)]))], [(o1, .inl (K.1 1, n, .inr (.inr (.inr (.inr (outC n ra))))))], [(a0, .inr (13, [.ref a1, .ref a2, .int 50, .int 0, .int 0, .int 0, .int 0, .int 0, .ref a3]))], [(a1, .inl (cAr S 0, n, .inl (tir q)))], [(a2, .inl (cAr S 2, n, .inl (fun _ => 0)))], rwC S n ra (T 0) (T 1), [(t1, .inl (K.1 1, p, .inr (.inr (.inr (.inr (outC p rb))))))], [(a3, .inl (cAr S 2, p, .inl (fun _ => 0)))], rwC S p rb (T 2) (T 3)] 523 [(11, .int (cellI N xs 17)), (6, .ref a0), (5, .int (nI n)), (0, .ref b), (1, rf S 0), (2, .ref sc), (3, .int 8), (4, .int 8)] [.int (fmI (cellI N xs 17) 8), .int 1, .ref b]
    refine Y_eqi (x' := nI wg) (ewg) ?_
    refine Y_iadd hX dX12_build_523 ?_
    refine Y_eqi (x' := nI (wg + 1)) (one_k wg) ?_
    refine Y_put 1 0 hX fw_X12_64 rfl rfl ⟨rfl, rfl, Nat.le_of_ble_eq_true rfl⟩ dX12_build_524 ?_
    show Y X S K A 86 721 [wsOf S w, [(b, .inr (14, [.ref o1, .ref t1, .int (nI (wg + 1)), .int 0, .int 0, .int (nI rr)]))], [(o1, .inl (K.1 1, n, .inr (.inr (.inr (.inr (outC n ra))))))], [(a0, .inr (13, [.ref a1, .ref a2, .int 50, .int 0, .int 0, .int 0, .int 0, .int 0, .ref a3]))], [(a1, .inl (cAr S 0, n, .inl (tir q)))], [(a2, .inl (cAr S 2, n, .inl (fun _ => 0)))], rwC S n ra (T 0) (T 1), [(t1, .inl (K.1 1, p, .inr (.inr (.inr (.inr (outC p rb))))))], [(a3, .inl (cAr S 2, p, .inl (fun _ => 0)))], rwC S p rb (T 2) (T 3)] 527 [(11, .int (cellI N xs 17)), (6, .ref a0), (5, .int (nI n)), (0, .ref b), (1, rf S 0), (2, .ref sc), (3, .int 8), (4, .int 8)] []
    refine Y_aload_n hX dX12_build_527 3 rfl ?_
    refine Y_iload hX dX12_build_528 0 rfl ?_
    refine Y_iconst (v := 5) hX dX12_build_530 (by decide) ?_
    refine Y_ishr hX dX12_build_531 ?_
    refine Y_bipush (v := 10) hX dX12_build_532 (by decide) ?_
    refine Y_resi hX (sub := []) (rst := [wsOf S w, [(b, .inr (14, [.ref o1, .ref t1, .int (nI (wg + 1)), .int 0, .int 0, .int (nI rr)]))], [(o1, .inl (K.1 1, n, .inr (.inr (.inr (.inr (outC n ra))))))], [(a0, .inr (13, [.ref a1, .ref a2, .int 50, .int 0, .int 0, .int 0, .int 0, .int 0, .ref a3]))], [(a1, .inl (cAr S 0, n, .inl (tir q)))], [(a2, .inl (cAr S 2, n, .inl (fun _ => 0)))], rwC S n ra (T 0) (T 1), [(t1, .inl (K.1 1, p, .inr (.inr (.inr (.inr (outC p rb))))))], [(a3, .inl (cAr S 2, p, .inl (fun _ => 0)))], rwC S p rb (T 2) (T 3)]) rfl (Y_runS (As := [.int (ishrI (cellI N xs 17) 5), .int 10]) (rest := [.ref b]) hX hE2 mk_X12_143 nkY_J9_floorMod_7cf53 hE (cY_J9_floorMod_7cf53 hE hF (ishrI (cellI N xs 17) 5) 10 (by decide)) rfl Ecall.same ⟨rfl, rfl⟩ ⟨Nat.le_of_ble_eq_true rfl, Nat.le_of_ble_eq_true rfl⟩ rfl rfl (Nat.le_of_ble_eq_true rfl) dX12_build_534 ⟨by show _ ≤ 400; omega, by show _ ≤ 4000; omega⟩) (fun u534 => ?_)
    show Y X S K A 86 721 [wsOf S w, [(b, .inr (14, [.ref o1, .ref t1, .int (nI (wg + 1)), .int 0, .int 0, .int (nI rr)]))], [(o1, .inl (K.1 1, n, .inr (.inr (.inr (.inr (outC n ra))))))], [(a0, .inr (13, [.ref a1, .ref a2, .int 50, .int 0, .int 0, .int 0, .int 0, .int 0, .ref a3]))], [(a1, .inl (cAr S 0, n, .inl (tir q)))], [(a2, .inl (cAr S 2, n, .inl (fun _ => 0)))], rwC S n ra (T 0) (T 1), [(t1, .inl (K.1 1, p, .inr (.inr (.inr (.inr (outC p rb))))))], [(a3, .inl (cAr S 2, p, .inl (fun _ => 0)))], rwC S p rb (T 2) (T 3)] 537 [(11, .int (cellI N xs 17)), (6, .ref a0), (5, .int (nI n)), (0, .ref b), (1, rf S 0), (2, .ref sc), (3, .int 8), (4, .int 8)] [.int (fmI (ishrI (cellI N xs 17) 5) 10), .ref b]
    refine Y_eqi (x' := nI fr) (efr) ?_
    refine Y_put 1 0 hX fw_X12_67 rfl rfl ⟨rfl, rfl, Nat.le_of_ble_eq_true rfl⟩ dX12_build_537 ?_
    show Y X S K A 86 721 [wsOf S w, [(b, .inr (14, [.ref o1, .ref t1, .int (nI (wg + 1)), .int (nI fr), .int 0, .int (nI rr)]))], [(o1, .inl (K.1 1, n, .inr (.inr (.inr (.inr (outC n ra))))))], [(a0, .inr (13, [.ref a1, .ref a2, .int 50, .int 0, .int 0, .int 0, .int 0, .int 0, .ref a3]))], [(a1, .inl (cAr S 0, n, .inl (tir q)))], [(a2, .inl (cAr S 2, n, .inl (fun _ => 0)))], rwC S n ra (T 0) (T 1), [(t1, .inl (K.1 1, p, .inr (.inr (.inr (.inr (outC p rb))))))], [(a3, .inl (cAr S 2, p, .inl (fun _ => 0)))], rwC S p rb (T 2) (T 3)] 540 [(11, .int (cellI N xs 17)), (6, .ref a0), (5, .int (nI n)), (0, .ref b), (1, rf S 0), (2, .ref sc), (3, .int 8), (4, .int 8)] []
    refine Y_aload_n hX dX12_build_540 3 rfl ?_
    refine Y_iload hX dX12_build_541 0 rfl ?_
    refine Y_bipush (v := 11) hX dX12_build_543 (by decide) ?_
    refine Y_ishr hX dX12_build_545 ?_
    refine Y_iload hX dX12_build_546 0 rfl ?_
    refine Y_bipush (v := 15) hX dX12_build_548 (by decide) ?_
    refine Y_ishr hX dX12_build_550 ?_
    refine Y_iconst (v := 1) hX dX12_build_551 (by decide) ?_
    refine Y_iand hX dX12_build_552 ?_
    refine Y_if_ne (tgt := 560) hX dX12_build_553 (by decide) (fun h553 => ?_) (fun h553 => ?_)
    · refine Y_bipush (v := 10) hX dX12_build_560 (by decide) ?_
      obtain ⟨mo, hmo, emo⟩ : ∃ z9 : Nat, z9 < 10 ∧ fmI (ishrI (cellI N xs 17) 11) 10 = nI z9 := fm_of _ (m := 10) (by decide) (by decide)
      replace hmo : mo < 10 := by omega
      refine Y_resi hX (sub := []) (rst := [wsOf S w, [(b, .inr (14, [.ref o1, .ref t1, .int (nI (wg + 1)), .int (nI fr), .int 0, .int (nI rr)]))], [(o1, .inl (K.1 1, n, .inr (.inr (.inr (.inr (outC n ra))))))], [(a0, .inr (13, [.ref a1, .ref a2, .int 50, .int 0, .int 0, .int 0, .int 0, .int 0, .ref a3]))], [(a1, .inl (cAr S 0, n, .inl (tir q)))], [(a2, .inl (cAr S 2, n, .inl (fun _ => 0)))], rwC S n ra (T 0) (T 1), [(t1, .inl (K.1 1, p, .inr (.inr (.inr (.inr (outC p rb))))))], [(a3, .inl (cAr S 2, p, .inl (fun _ => 0)))], rwC S p rb (T 2) (T 3)]) rfl (Y_runS (As := [.int (ishrI (cellI N xs 17) 11), .int 10]) (rest := [.ref b]) hX hE2 mk_X12_143 nkY_J9_floorMod_7cf53 hE (cY_J9_floorMod_7cf53 hE hF (ishrI (cellI N xs 17) 11) 10 (by decide)) rfl Ecall.same ⟨rfl, rfl⟩ ⟨Nat.le_of_ble_eq_true rfl, Nat.le_of_ble_eq_true rfl⟩ rfl rfl (Nat.le_of_ble_eq_true rfl) dX12_build_562 ⟨by show _ ≤ 400; omega, by show _ ≤ 4000; omega⟩) (fun u562 => ?_)
      show Y X S K A 86 721 [wsOf S w, [(b, .inr (14, [.ref o1, .ref t1, .int (nI (wg + 1)), .int (nI fr), .int 0, .int (nI rr)]))], [(o1, .inl (K.1 1, n, .inr (.inr (.inr (.inr (outC n ra))))))], [(a0, .inr (13, [.ref a1, .ref a2, .int 50, .int 0, .int 0, .int 0, .int 0, .int 0, .ref a3]))], [(a1, .inl (cAr S 0, n, .inl (tir q)))], [(a2, .inl (cAr S 2, n, .inl (fun _ => 0)))], rwC S n ra (T 0) (T 1), [(t1, .inl (K.1 1, p, .inr (.inr (.inr (.inr (outC p rb))))))], [(a3, .inl (cAr S 2, p, .inl (fun _ => 0)))], rwC S p rb (T 2) (T 3)] 565 [(11, .int (cellI N xs 17)), (6, .ref a0), (5, .int (nI n)), (0, .ref b), (1, rf S 0), (2, .ref sc), (3, .int 8), (4, .int 8)] [.int (fmI (ishrI (cellI N xs 17) 11) 10), .ref b]
      refine Y_eqi (x' := nI mo) (emo) ?_
      refine Y_put 1 0 hX fw_X12_99 rfl rfl ⟨rfl, rfl, Nat.le_of_ble_eq_true rfl⟩ dX12_build_565 ?_
      show Y X S K A 86 721 [wsOf S w, [(b, .inr (14, [.ref o1, .ref t1, .int (nI (wg + 1)), .int (nI fr), .int (nI mo), .int (nI rr)]))], [(o1, .inl (K.1 1, n, .inr (.inr (.inr (.inr (outC n ra))))))], [(a0, .inr (13, [.ref a1, .ref a2, .int 50, .int 0, .int 0, .int 0, .int 0, .int 0, .ref a3]))], [(a1, .inl (cAr S 0, n, .inl (tir q)))], [(a2, .inl (cAr S 2, n, .inl (fun _ => 0)))], rwC S n ra (T 0) (T 1), [(t1, .inl (K.1 1, p, .inr (.inr (.inr (.inr (outC p rb))))))], [(a3, .inl (cAr S 2, p, .inl (fun _ => 0)))], rwC S p rb (T 2) (T 3)] 568 [(11, .int (cellI N xs 17)), (6, .ref a0), (5, .int (nI n)), (0, .ref b), (1, rf S 0), (2, .ref sc), (3, .int 8), (4, .int 8)] []
      refine Y_aload_n hX dX12_build_568 4 rfl ?_
      refine Y_iconst (v := 0) hX dX12_build_569 (by decide) ?_
      refine Y_aload_n hX dX12_build_570 3 rfl ?_
      refine Y_get 1 0 hX fk_X12_64 rfl rfl rfl dX12_build_571 ?_
      obtain ⟨w574, e574, g574⟩ := q_set0 g hb.1 hwg
      refine Y_callCi (w2 := w574) (v := 5) (As := [.int 0, .int (nI (wg + 1))]) (rest := []) hX hE2 hF mk_X12_183 nk_X10_set (fun l => c_X10_set l S e574) rfl tb_0 rfl ⟨rfl, rfl, Nat.le_of_ble_eq_true rfl, Nat.le_of_ble_eq_true rfl⟩ rfl rfl (Nat.le_of_ble_eq_true rfl) dX12_build_574 ⟨by show _ ≤ 400; omega, by show _ ≤ 4000; omega⟩ ?_
      show Y X S K A 86 721 [wsOf S w574, [(b, .inr (14, [.ref o1, .ref t1, .int (nI (wg + 1)), .int (nI fr), .int (nI mo), .int (nI rr)]))], [(o1, .inl (K.1 1, n, .inr (.inr (.inr (.inr (outC n ra))))))], [(a0, .inr (13, [.ref a1, .ref a2, .int 50, .int 0, .int 0, .int 0, .int 0, .int 0, .ref a3]))], [(a1, .inl (cAr S 0, n, .inl (tir q)))], [(a2, .inl (cAr S 2, n, .inl (fun _ => 0)))], rwC S n ra (T 0) (T 1), [(t1, .inl (K.1 1, p, .inr (.inr (.inr (.inr (outC p rb))))))], [(a3, .inl (cAr S 2, p, .inl (fun _ => 0)))], rwC S p rb (T 2) (T 3)] 577 [(11, .int (cellI N xs 17)), (6, .ref a0), (5, .int (nI n)), (0, .ref b), (1, rf S 0), (2, .ref sc), (3, .int 8), (4, .int 8)] [.int 5]
      refine Y_iconst (v := 5) hX dX12_build_577 (by decide) ?_
      refine Y_icmp_ne (tgt := 606) hX dX12_build_578 (by decide) (fun z => absurd rfl z) (fun _ => ?_)
      refine Y_aload_n hX dX12_build_581 4 rfl ?_
      refine Y_iconst (v := 1) hX dX12_build_582 (by decide) ?_
      refine Y_aload_n hX dX12_build_583 3 rfl ?_
      refine Y_get 1 0 hX fk_X12_67 rfl rfl rfl dX12_build_584 ?_
      obtain ⟨w587, e587, g587⟩ := q_set1 g574 hb.2.1 hfr
      refine Y_callCi (w2 := w587) (v := 0) (As := [.int 1, .int (nI fr)]) (rest := []) hX hE2 hF mk_X12_183 nk_X10_set (fun l => c_X10_set l S e587) rfl tb_0 rfl ⟨rfl, rfl, Nat.le_of_ble_eq_true rfl, Nat.le_of_ble_eq_true rfl⟩ rfl rfl (Nat.le_of_ble_eq_true rfl) dX12_build_587 ⟨by show _ ≤ 400; omega, by show _ ≤ 4000; omega⟩ ?_
      show Y X S K A 86 721 [wsOf S w587, [(b, .inr (14, [.ref o1, .ref t1, .int (nI (wg + 1)), .int (nI fr), .int (nI mo), .int (nI rr)]))], [(o1, .inl (K.1 1, n, .inr (.inr (.inr (.inr (outC n ra))))))], [(a0, .inr (13, [.ref a1, .ref a2, .int 50, .int 0, .int 0, .int 0, .int 0, .int 0, .ref a3]))], [(a1, .inl (cAr S 0, n, .inl (tir q)))], [(a2, .inl (cAr S 2, n, .inl (fun _ => 0)))], rwC S n ra (T 0) (T 1), [(t1, .inl (K.1 1, p, .inr (.inr (.inr (.inr (outC p rb))))))], [(a3, .inl (cAr S 2, p, .inl (fun _ => 0)))], rwC S p rb (T 2) (T 3)] 590 [(11, .int (cellI N xs 17)), (6, .ref a0), (5, .int (nI n)), (0, .ref b), (1, rf S 0), (2, .ref sc), (3, .int 8), (4, .int 8)] [.int 0]
      refine Y_if_ne (tgt := 606) hX dX12_build_590 (by decide) (fun z => absurd rfl z) (fun _ => ?_)
      refine Y_aload_n hX dX12_build_593 4 rfl ?_
      refine Y_iconst (v := 2) hX dX12_build_594 (by decide) ?_
      refine Y_aload_n hX dX12_build_595 3 rfl ?_
      refine Y_get 1 0 hX fk_X12_99 rfl rfl rfl dX12_build_596 ?_
      obtain ⟨w599, e599, g599⟩ := q_set2 g587 hb.2.2.1 hmo
      refine Y_callCi (w2 := w599) (v := 2) (As := [.int 2, .int (nI mo)]) (rest := []) hX hE2 hF mk_X12_183 nk_X10_set (fun l => c_X10_set l S e599) rfl tb_0 rfl ⟨rfl, rfl, Nat.le_of_ble_eq_true rfl, Nat.le_of_ble_eq_true rfl⟩ rfl rfl (Nat.le_of_ble_eq_true rfl) dX12_build_599 ⟨by show _ ≤ 400; omega, by show _ ≤ 4000; omega⟩ ?_
      show Y X S K A 86 721 [wsOf S w599, [(b, .inr (14, [.ref o1, .ref t1, .int (nI (wg + 1)), .int (nI fr), .int (nI mo), .int (nI rr)]))], [(o1, .inl (K.1 1, n, .inr (.inr (.inr (.inr (outC n ra))))))], [(a0, .inr (13, [.ref a1, .ref a2, .int 50, .int 0, .int 0, .int 0, .int 0, .int 0, .ref a3]))], [(a1, .inl (cAr S 0, n, .inl (tir q)))], [(a2, .inl (cAr S 2, n, .inl (fun _ => 0)))], rwC S n ra (T 0) (T 1), [(t1, .inl (K.1 1, p, .inr (.inr (.inr (.inr (outC p rb))))))], [(a3, .inl (cAr S 2, p, .inl (fun _ => 0)))], rwC S p rb (T 2) (T 3)] 602 [(11, .int (cellI N xs 17)), (6, .ref a0), (5, .int (nI n)), (0, .ref b), (1, rf S 0), (2, .ref sc), (3, .int 8), (4, .int 8)] [.int 2]
      refine Y_iconst (v := 2) hX dX12_build_602 (by decide) ?_
      refine Y_icmp_eq (tgt := 608) hX dX12_build_603 (by decide) (fun _ => ?_) (fun z => absurd rfl z)
      refine Y_iconst (v := 0) hX dX12_build_608 (by decide) ?_
      refine Y_istore (lv' := [(12, .int 0), (11, .int (cellI N xs 17)), (6, .ref a0), (5, .int (nI n)), (0, .ref b), (1, rf S 0), (2, .ref sc), (3, .int 8), (4, .int 8)]) hX dX12_build_609 (by decide) rfl ?_
      refine Y_pick (bl' := [wsOf S w599, [(a0, .inr (13, [.ref a1, .ref a2, .int 50, .int 0, .int 0, .int 0, .int 0, .int 0, .ref a3]))], [(a1, .inl (cAr S 0, n, .inl (tir q)))], [(a2, .inl (cAr S 2, n, .inl (fun _ => 0)))], [(a3, .inl (cAr S 2, p, .inl (fun _ => 0)))], [(b, .inr (14, [.ref o1, .ref t1, .int (nI (wg + 1)), .int (nI fr), .int (nI mo), .int (nI rr)]))], [(o1, .inl (K.1 1, n, .inr (.inr (.inr (.inr (outC n ra))))))], [(t1, .inl (K.1 1, p, .inr (.inr (.inr (.inr (outC p rb))))))], rwC S n ra (T 0) (T 1), rwC S p rb (T 2) (T 3)]) [0, 3, 4, 5, 8, 1, 2, 7, 6, 9] (by decide) rfl ?_
      refine Y_fl (bl' := [wsOf S w599, stB S n p (ad4 a0 a1 a2 a3) q, bnC S K n p (ad4 b o1 t1 t1) ra rb ((setT (setT (setT T 2 (nI (wg + 1))) 3 (nI fr)) 4 (nI mo)) 4 2) ((setT (setT (setT T 2 (nI (wg + 1))) 3 (nI fr)) 4 (nI mo)) 4 3) ((setT (setT (setT T 2 (nI (wg + 1))) 3 (nI fr)) 4 (nI mo)) 4 4) (nI rr), rwC S n ra ((setT (setT (setT T 2 (nI (wg + 1))) 3 (nI fr)) 4 (nI mo)) 0) ((setT (setT (setT T 2 (nI (wg + 1))) 3 (nI fr)) 4 (nI mo)) 1), rwC S p rb ((setT (setT (setT T 2 (nI (wg + 1))) 3 (nI fr)) 4 (nI mo)) 2) ((setT (setT (setT T 2 (nI (wg + 1))) 3 (nI fr)) 4 (nI mo)) 3)]) (by rw [stB_z hq, setT_x (x := 0) (by decide), setT_x (x := 0) (by decide), setT_x (x := 0) (by decide), setT_x (x := 1) (by decide), setT_x (x := 1) (by decide), setT_x (x := 1) (by decide), setT_x (x := 2) (by decide), setT_x (x := 2) (by decide), setT_x (x := 2) (by decide), setT_x (x := 3) (by decide), setT_x (x := 3) (by decide), setT_x (x := 3) (by decide)]; rfl) ?_
      exact kk w599 _ _ (RuOk_of hrr (by rw [setT_x (by decide), setT_x (by decide), setT_x (by decide)]; exact hb.2.2.2.1) (fun j hj => by rw [setT_x (by decide), setT_x (by decide), setT_x (by decide)]; exact hb.2.2.2.2 j hj)) g599
    · refine Y_iconst (v := 4) hX dX12_build_556 (by decide) ?_
      refine Y_goto (tgt := 562) hX dX12_build_557 (by decide) ?_
      obtain ⟨mo, hmo, emo⟩ : ∃ z9 : Nat, z9 < 4 ∧ fmI (ishrI (cellI N xs 17) 11) 4 = nI z9 := fm_of _ (m := 4) (by decide) (by decide)
      replace hmo : mo < 10 := by omega
      refine Y_resi hX (sub := []) (rst := [wsOf S w, [(b, .inr (14, [.ref o1, .ref t1, .int (nI (wg + 1)), .int (nI fr), .int 0, .int (nI rr)]))], [(o1, .inl (K.1 1, n, .inr (.inr (.inr (.inr (outC n ra))))))], [(a0, .inr (13, [.ref a1, .ref a2, .int 50, .int 0, .int 0, .int 0, .int 0, .int 0, .ref a3]))], [(a1, .inl (cAr S 0, n, .inl (tir q)))], [(a2, .inl (cAr S 2, n, .inl (fun _ => 0)))], rwC S n ra (T 0) (T 1), [(t1, .inl (K.1 1, p, .inr (.inr (.inr (.inr (outC p rb))))))], [(a3, .inl (cAr S 2, p, .inl (fun _ => 0)))], rwC S p rb (T 2) (T 3)]) rfl (Y_runS (As := [.int (ishrI (cellI N xs 17) 11), .int 4]) (rest := [.ref b]) hX hE2 mk_X12_143 nkY_J9_floorMod_7cf53 hE (cY_J9_floorMod_7cf53 hE hF (ishrI (cellI N xs 17) 11) 4 (by decide)) rfl Ecall.same ⟨rfl, rfl⟩ ⟨Nat.le_of_ble_eq_true rfl, Nat.le_of_ble_eq_true rfl⟩ rfl rfl (Nat.le_of_ble_eq_true rfl) dX12_build_562 ⟨by show _ ≤ 400; omega, by show _ ≤ 4000; omega⟩) (fun u562 => ?_)
      show Y X S K A 86 721 [wsOf S w, [(b, .inr (14, [.ref o1, .ref t1, .int (nI (wg + 1)), .int (nI fr), .int 0, .int (nI rr)]))], [(o1, .inl (K.1 1, n, .inr (.inr (.inr (.inr (outC n ra))))))], [(a0, .inr (13, [.ref a1, .ref a2, .int 50, .int 0, .int 0, .int 0, .int 0, .int 0, .ref a3]))], [(a1, .inl (cAr S 0, n, .inl (tir q)))], [(a2, .inl (cAr S 2, n, .inl (fun _ => 0)))], rwC S n ra (T 0) (T 1), [(t1, .inl (K.1 1, p, .inr (.inr (.inr (.inr (outC p rb))))))], [(a3, .inl (cAr S 2, p, .inl (fun _ => 0)))], rwC S p rb (T 2) (T 3)] 565 [(11, .int (cellI N xs 17)), (6, .ref a0), (5, .int (nI n)), (0, .ref b), (1, rf S 0), (2, .ref sc), (3, .int 8), (4, .int 8)] [.int (fmI (ishrI (cellI N xs 17) 11) 4), .ref b]
      refine Y_eqi (x' := nI mo) (emo) ?_
      refine Y_put 1 0 hX fw_X12_99 rfl rfl ⟨rfl, rfl, Nat.le_of_ble_eq_true rfl⟩ dX12_build_565 ?_
      show Y X S K A 86 721 [wsOf S w, [(b, .inr (14, [.ref o1, .ref t1, .int (nI (wg + 1)), .int (nI fr), .int (nI mo), .int (nI rr)]))], [(o1, .inl (K.1 1, n, .inr (.inr (.inr (.inr (outC n ra))))))], [(a0, .inr (13, [.ref a1, .ref a2, .int 50, .int 0, .int 0, .int 0, .int 0, .int 0, .ref a3]))], [(a1, .inl (cAr S 0, n, .inl (tir q)))], [(a2, .inl (cAr S 2, n, .inl (fun _ => 0)))], rwC S n ra (T 0) (T 1), [(t1, .inl (K.1 1, p, .inr (.inr (.inr (.inr (outC p rb))))))], [(a3, .inl (cAr S 2, p, .inl (fun _ => 0)))], rwC S p rb (T 2) (T 3)] 568 [(11, .int (cellI N xs 17)), (6, .ref a0), (5, .int (nI n)), (0, .ref b), (1, rf S 0), (2, .ref sc), (3, .int 8), (4, .int 8)] []
      refine Y_aload_n hX dX12_build_568 4 rfl ?_
      refine Y_iconst (v := 0) hX dX12_build_569 (by decide) ?_
      refine Y_aload_n hX dX12_build_570 3 rfl ?_
      refine Y_get 1 0 hX fk_X12_64 rfl rfl rfl dX12_build_571 ?_
      obtain ⟨w574, e574, g574⟩ := q_set0 g hb.1 hwg
      refine Y_callCi (w2 := w574) (v := 5) (As := [.int 0, .int (nI (wg + 1))]) (rest := []) hX hE2 hF mk_X12_183 nk_X10_set (fun l => c_X10_set l S e574) rfl tb_0 rfl ⟨rfl, rfl, Nat.le_of_ble_eq_true rfl, Nat.le_of_ble_eq_true rfl⟩ rfl rfl (Nat.le_of_ble_eq_true rfl) dX12_build_574 ⟨by show _ ≤ 400; omega, by show _ ≤ 4000; omega⟩ ?_
      show Y X S K A 86 721 [wsOf S w574, [(b, .inr (14, [.ref o1, .ref t1, .int (nI (wg + 1)), .int (nI fr), .int (nI mo), .int (nI rr)]))], [(o1, .inl (K.1 1, n, .inr (.inr (.inr (.inr (outC n ra))))))], [(a0, .inr (13, [.ref a1, .ref a2, .int 50, .int 0, .int 0, .int 0, .int 0, .int 0, .ref a3]))], [(a1, .inl (cAr S 0, n, .inl (tir q)))], [(a2, .inl (cAr S 2, n, .inl (fun _ => 0)))], rwC S n ra (T 0) (T 1), [(t1, .inl (K.1 1, p, .inr (.inr (.inr (.inr (outC p rb))))))], [(a3, .inl (cAr S 2, p, .inl (fun _ => 0)))], rwC S p rb (T 2) (T 3)] 577 [(11, .int (cellI N xs 17)), (6, .ref a0), (5, .int (nI n)), (0, .ref b), (1, rf S 0), (2, .ref sc), (3, .int 8), (4, .int 8)] [.int 5]
      refine Y_iconst (v := 5) hX dX12_build_577 (by decide) ?_
      refine Y_icmp_ne (tgt := 606) hX dX12_build_578 (by decide) (fun z => absurd rfl z) (fun _ => ?_)
      refine Y_aload_n hX dX12_build_581 4 rfl ?_
      refine Y_iconst (v := 1) hX dX12_build_582 (by decide) ?_
      refine Y_aload_n hX dX12_build_583 3 rfl ?_
      refine Y_get 1 0 hX fk_X12_67 rfl rfl rfl dX12_build_584 ?_
      obtain ⟨w587, e587, g587⟩ := q_set1 g574 hb.2.1 hfr
      refine Y_callCi (w2 := w587) (v := 0) (As := [.int 1, .int (nI fr)]) (rest := []) hX hE2 hF mk_X12_183 nk_X10_set (fun l => c_X10_set l S e587) rfl tb_0 rfl ⟨rfl, rfl, Nat.le_of_ble_eq_true rfl, Nat.le_of_ble_eq_true rfl⟩ rfl rfl (Nat.le_of_ble_eq_true rfl) dX12_build_587 ⟨by show _ ≤ 400; omega, by show _ ≤ 4000; omega⟩ ?_
      show Y X S K A 86 721 [wsOf S w587, [(b, .inr (14, [.ref o1, .ref t1, .int (nI (wg + 1)), .int (nI fr), .int (nI mo), .int (nI rr)]))], [(o1, .inl (K.1 1, n, .inr (.inr (.inr (.inr (outC n ra))))))], [(a0, .inr (13, [.ref a1, .ref a2, .int 50, .int 0, .int 0, .int 0, .int 0, .int 0, .ref a3]))], [(a1, .inl (cAr S 0, n, .inl (tir q)))], [(a2, .inl (cAr S 2, n, .inl (fun _ => 0)))], rwC S n ra (T 0) (T 1), [(t1, .inl (K.1 1, p, .inr (.inr (.inr (.inr (outC p rb))))))], [(a3, .inl (cAr S 2, p, .inl (fun _ => 0)))], rwC S p rb (T 2) (T 3)] 590 [(11, .int (cellI N xs 17)), (6, .ref a0), (5, .int (nI n)), (0, .ref b), (1, rf S 0), (2, .ref sc), (3, .int 8), (4, .int 8)] [.int 0]
      refine Y_if_ne (tgt := 606) hX dX12_build_590 (by decide) (fun z => absurd rfl z) (fun _ => ?_)
      refine Y_aload_n hX dX12_build_593 4 rfl ?_
      refine Y_iconst (v := 2) hX dX12_build_594 (by decide) ?_
      refine Y_aload_n hX dX12_build_595 3 rfl ?_
      refine Y_get 1 0 hX fk_X12_99 rfl rfl rfl dX12_build_596 ?_
      obtain ⟨w599, e599, g599⟩ := q_set2 g587 hb.2.2.1 hmo
      refine Y_callCi (w2 := w599) (v := 2) (As := [.int 2, .int (nI mo)]) (rest := []) hX hE2 hF mk_X12_183 nk_X10_set (fun l => c_X10_set l S e599) rfl tb_0 rfl ⟨rfl, rfl, Nat.le_of_ble_eq_true rfl, Nat.le_of_ble_eq_true rfl⟩ rfl rfl (Nat.le_of_ble_eq_true rfl) dX12_build_599 ⟨by show _ ≤ 400; omega, by show _ ≤ 4000; omega⟩ ?_
      show Y X S K A 86 721 [wsOf S w599, [(b, .inr (14, [.ref o1, .ref t1, .int (nI (wg + 1)), .int (nI fr), .int (nI mo), .int (nI rr)]))], [(o1, .inl (K.1 1, n, .inr (.inr (.inr (.inr (outC n ra))))))], [(a0, .inr (13, [.ref a1, .ref a2, .int 50, .int 0, .int 0, .int 0, .int 0, .int 0, .ref a3]))], [(a1, .inl (cAr S 0, n, .inl (tir q)))], [(a2, .inl (cAr S 2, n, .inl (fun _ => 0)))], rwC S n ra (T 0) (T 1), [(t1, .inl (K.1 1, p, .inr (.inr (.inr (.inr (outC p rb))))))], [(a3, .inl (cAr S 2, p, .inl (fun _ => 0)))], rwC S p rb (T 2) (T 3)] 602 [(11, .int (cellI N xs 17)), (6, .ref a0), (5, .int (nI n)), (0, .ref b), (1, rf S 0), (2, .ref sc), (3, .int 8), (4, .int 8)] [.int 2]
      refine Y_iconst (v := 2) hX dX12_build_602 (by decide) ?_
      refine Y_icmp_eq (tgt := 608) hX dX12_build_603 (by decide) (fun _ => ?_) (fun z => absurd rfl z)
      refine Y_iconst (v := 0) hX dX12_build_608 (by decide) ?_
      refine Y_istore (lv' := [(12, .int 0), (11, .int (cellI N xs 17)), (6, .ref a0), (5, .int (nI n)), (0, .ref b), (1, rf S 0), (2, .ref sc), (3, .int 8), (4, .int 8)]) hX dX12_build_609 (by decide) rfl ?_
      refine Y_pick (bl' := [wsOf S w599, [(a0, .inr (13, [.ref a1, .ref a2, .int 50, .int 0, .int 0, .int 0, .int 0, .int 0, .ref a3]))], [(a1, .inl (cAr S 0, n, .inl (tir q)))], [(a2, .inl (cAr S 2, n, .inl (fun _ => 0)))], [(a3, .inl (cAr S 2, p, .inl (fun _ => 0)))], [(b, .inr (14, [.ref o1, .ref t1, .int (nI (wg + 1)), .int (nI fr), .int (nI mo), .int (nI rr)]))], [(o1, .inl (K.1 1, n, .inr (.inr (.inr (.inr (outC n ra))))))], [(t1, .inl (K.1 1, p, .inr (.inr (.inr (.inr (outC p rb))))))], rwC S n ra (T 0) (T 1), rwC S p rb (T 2) (T 3)]) [0, 3, 4, 5, 8, 1, 2, 7, 6, 9] (by decide) rfl ?_
      refine Y_fl (bl' := [wsOf S w599, stB S n p (ad4 a0 a1 a2 a3) q, bnC S K n p (ad4 b o1 t1 t1) ra rb ((setT (setT (setT T 2 (nI (wg + 1))) 3 (nI fr)) 4 (nI mo)) 4 2) ((setT (setT (setT T 2 (nI (wg + 1))) 3 (nI fr)) 4 (nI mo)) 4 3) ((setT (setT (setT T 2 (nI (wg + 1))) 3 (nI fr)) 4 (nI mo)) 4 4) (nI rr), rwC S n ra ((setT (setT (setT T 2 (nI (wg + 1))) 3 (nI fr)) 4 (nI mo)) 0) ((setT (setT (setT T 2 (nI (wg + 1))) 3 (nI fr)) 4 (nI mo)) 1), rwC S p rb ((setT (setT (setT T 2 (nI (wg + 1))) 3 (nI fr)) 4 (nI mo)) 2) ((setT (setT (setT T 2 (nI (wg + 1))) 3 (nI fr)) 4 (nI mo)) 3)]) (by rw [stB_z hq, setT_x (x := 0) (by decide), setT_x (x := 0) (by decide), setT_x (x := 0) (by decide), setT_x (x := 1) (by decide), setT_x (x := 1) (by decide), setT_x (x := 1) (by decide), setT_x (x := 2) (by decide), setT_x (x := 2) (by decide), setT_x (x := 2) (by decide), setT_x (x := 3) (by decide), setT_x (x := 3) (by decide), setT_x (x := 3) (by decide)]; rfl) ?_
      exact kk w599 _ _ (RuOk_of hrr (by rw [setT_x (by decide), setT_x (by decide), setT_x (by decide)]; exact hb.2.2.2.1) (fun j hj => by rw [setT_x (by decide), setT_x (by decide), setT_x (by decide)]; exact hb.2.2.2.2 j hj)) g599
set_option maxHeartbeats 8000000 in
theorem bu_7 {X : Cx} {S : Sx} {K : Kx} {A : Nat → Prop} {E : Ex} {sc N : Nat} {xs : Nat → Int32} (hE : Stb E) (hF : ∀ (A : Nat → Prop) (s : State), E A s → KF S K A s s.heap) (hx : ∀ (A : Nat → Prop) (s : State), E A s → EX S K sc N xs A s) (hV : ∀ (A : Nat → Prop) (s : State), E A s → PVs s) (hN : N < 2 ^ 31) (hX : Yok X S K A cX12_build RX12 14 rmY_X12_build) (hE2 : YE X A E)  {n p rr : Nat} {a b ra rb : Nat → Nat} {T : Tw} {t : Nat → Int32} {L : List Int64} {c : Int32} (hr : RuOk T (nI rr)) (kk : ∀ (w1 : Wd) (q1 : Bl) (u1 : Us), q1 15 = 0 → CQ w1 T q1 n p u1 t 0 L → Y X S K A 86 721 [wsOf S w1, stB S n p a q1, bnC S K n p b ra rb (T 4 2) (T 4 3) (T 4 4) (nI rr), rwC S n ra (T 0) (T 1), rwC S p rb (T 2) (T 3)] 680 [(6, .ref (a 0)), (5, .int (nI n)), (0, .ref (b 0)), (1, rf S 0), (2, .ref sc), (3, .int 8), (4, .int 8)] []) : ∀ (j k : Nat), k + j = 3 → ∀ (w : Wd) (q : Bl) (u : Us), q 15 = 0 → CQ w T q n p u t 0 L → Y X S K A 86 721 [wsOf S w, stB S n p a q, bnC S K n p b ra rb (T 4 2) (T 4 3) (T 4 4) (nI rr), rwC S n ra (T 0) (T 1), rwC S p rb (T 2) (T 3)] 611 [(12, .int (nI k)), (11, .int c), (6, .ref (a 0)), (5, .int (nI n)), (0, .ref (b 0)), (1, rf S 0), (2, .ref sc), (3, .int 8), (4, .int 8)] [] := by
  intro j
  induction j with
  | zero =>
    intro k hk w q u h15 g
    obtain ⟨N9, K9, ok, hq⟩ := q_ok g
    have hn := ok.1
    refine Y_iload hX dX12_build_611 0 rfl ?_
    refine Y_iconst (v := 3) hX dX12_build_613 (by decide) ?_
    refine Y_icmp_ge (tgt := 680) hX dX12_build_614 (by decide) (fun _ => ?_) (fun z => absurd (show (3 : Int32) ≤ nI k from nI_le (a := 3) (b := k) (by omega) (by omega)) z)
    refine Y_sub (lv' := [(6, .ref (a 0)), (5, .int (nI n)), (0, .ref (b 0)), (1, rf S 0), (2, .ref sc), (3, .int 8), (4, .int 8)]) [2, 3, 4, 5, 6, 7, 8] rfl ?_
    exact kk w q u h15 g
  | succ j ih =>
    intro k hk w q u h15 g
    obtain ⟨N9, K9, ok, hq⟩ := q_ok g
    have hn := ok.1
    have hp := ok.2.1
    refine Y_iload hX dX12_build_611 0 rfl ?_
    refine Y_iconst (v := 3) hX dX12_build_613 (by decide) ?_
    refine Y_icmp_ge (tgt := 680) hX dX12_build_614 (by decide) (fun z => absurd z (nI_ge (show k < 3 by omega) (by decide))) (fun _ => ?_)
    refine Y_iload hX dX12_build_617 3 rfl ?_
    refine Y_if_le (tgt := 680) hX dX12_build_619 (by decide) (fun h619 => ?_) (fun h619 => ?_)
    · refine Y_sub (lv' := [(6, .ref (a 0)), (5, .int (nI n)), (0, .ref (b 0)), (1, rf S 0), (2, .ref sc), (3, .int 8), (4, .int 8)]) [2, 3, 4, 5, 6, 7, 8] rfl ?_
      exact kk w q u h15 g
    · have h0 : 0 < n := Nat.pos_of_ne_zero (fun z => h619 (by rw [z]; decide))
      obtain ⟨r1, hr1, er1⟩ := fm_of (ishrI c (16 + 3 * nI k)) (m := n) h0 (by omega)
      refine Y_iload hX dX12_build_622 1 rfl ?_
      refine Y_bipush (v := 16) hX dX12_build_624 (by decide) ?_
      refine Y_iconst (v := 3) hX dX12_build_626 (by decide) ?_
      refine Y_iload hX dX12_build_627 0 rfl ?_
      refine Y_imul hX dX12_build_629 ?_
      refine Y_iadd hX dX12_build_630 ?_
      refine Y_ishr hX dX12_build_631 ?_
      refine Y_iload hX dX12_build_632 3 rfl ?_
      refine Y_resi hX (sub := []) (rst := [wsOf S w, stB S n p a q, bnC S K n p b ra rb (T 4 2) (T 4 3) (T 4 4) (nI rr), rwC S n ra (T 0) (T 1), rwC S p rb (T 2) (T 3)]) rfl (Y_runS (As := [.int (ishrI c (16 + (3 * (nI k)))), .int (nI n)]) (rest := []) hX hE2 mk_X12_143 nkY_J9_floorMod_7cf53 hE (cY_J9_floorMod_7cf53 hE hF (ishrI c (16 + 3 * nI k)) (nI n) (nz_n h0 (by omega))) rfl Ecall.same ⟨rfl, rfl⟩ ⟨Nat.le_of_ble_eq_true rfl, Nat.le_of_ble_eq_true rfl⟩ rfl rfl (Nat.le_of_ble_eq_true rfl) dX12_build_634 ⟨by show _ ≤ 400; omega, by show _ ≤ 4000; omega⟩) (fun u634 => ?_)
      show Y X S K A 86 721 [wsOf S w, stB S n p a q, bnC S K n p b ra rb (T 4 2) (T 4 3) (T 4 4) (nI rr), rwC S n ra (T 0) (T 1), rwC S p rb (T 2) (T 3)] 637 [(12, .int (nI k)), (11, .int c), (6, .ref (a 0)), (5, .int (nI n)), (0, .ref (b 0)), (1, rf S 0), (2, .ref sc), (3, .int 8), (4, .int 8)] [.int (fmI (ishrI c (16 + 3 * nI k)) (nI n))]
      refine Y_eqi (x' := nI r1) (er1) ?_
      refine Y_istore (lv' := [(13, .int (nI r1)), (12, .int (nI k)), (11, .int c), (6, .ref (a 0)), (5, .int (nI n)), (0, .ref (b 0)), (1, rf S 0), (2, .ref sc), (3, .int 8), (4, .int 8)]) hX dX12_build_637 (by decide) rfl ?_
      refine Y_iload hX dX12_build_639 2 rfl ?_
      refine Y_bipush (v := 25) hX dX12_build_641 (by decide) ?_
      refine Y_iload hX dX12_build_643 1 rfl ?_
      refine Y_iadd hX dX12_build_645 ?_
      refine Y_ishr hX dX12_build_646 ?_
      refine Y_iconst (v := 1) hX dX12_build_647 (by decide) ?_
      refine Y_iand hX dX12_build_648 ?_
      refine Y_if_ne (tgt := 655) hX dX12_build_649 (by decide) (fun h649 => ?_) (fun h649 => ?_)
      · refine Y_aload_n hX dX12_build_655 6 rfl ?_
        refine Y_iload hX dX12_build_656 0 rfl ?_
        obtain ⟨w658, e658, g658⟩ := q_take g (nI r1)
        refine Y_callCi (w2 := w658) (v := (tkP n q (nI r1)).1) (As := [.int (nI r1)]) (rest := []) hX hE2 hF mk_X12_186 nk_X10_take (fun l => c_X10_take l S e658) rfl tb_0 rfl ⟨rfl, rfl, Nat.le_of_ble_eq_true rfl, Nat.le_of_ble_eq_true rfl⟩ rfl rfl (Nat.le_of_ble_eq_true rfl) dX12_build_658 ⟨by show _ ≤ 400; omega, by show _ ≤ 4000; omega⟩ ?_
        show Y X S K A 86 721 [wsOf S w658, stB S n p a q, bnC S K n p b ra rb (T 4 2) (T 4 3) (T 4 4) (nI rr), rwC S n ra (T 0) (T 1), rwC S p rb (T 2) (T 3)] 661 [(13, .int (nI r1)), (12, .int (nI k)), (11, .int c), (6, .ref (a 0)), (5, .int (nI n)), (0, .ref (b 0)), (1, rf S 0), (2, .ref sc), (3, .int 8), (4, .int 8)] [.int ((tkP n q (nI r1)).1)]
        refine Y_aload_n hX dX12_build_661 5 rfl ?_
        refine Y_aload hX dX12_build_662 3 rfl ?_
        refine Y_iload hX dX12_build_664 0 rfl ?_
        refine Y_pick [1, 2, 0, 3, 4] (by decide) rfl ?_
        show Y X S K A 86 721 [stB S n p a q, bnC S K n p b ra rb (T 4 2) (T 4 3) (T 4 4) (nI rr), wsOf S w658, rwC S n ra (T 0) (T 1), rwC S p rb (T 2) (T 3)] 666 [(13, .int (nI r1)), (12, .int (nI k)), (11, .int c), (6, .ref (a 0)), (5, .int (nI n)), (0, .ref (b 0)), (1, rf S 0), (2, .ref sc), (3, .int 8), (4, .int 8)] [.int (nI r1), .ref (a 0), .ref (b 0), .int ((tkP n q (nI r1)).1)]
        refine Y_resi hX (sub := [stB S n p a q, bnC S K n p b ra rb (T 4 2) (T 4 3) (T 4 4) (nI rr)]) (rst := [wsOf S w658, rwC S n ra (T 0) (T 1), rwC S p rb (T 2) (T 3)]) rfl (Y_runV (b := 1) (i := 0) (As := [.ref (a 0), .int (nI r1)]) (rest := [.int ((tkP n q (nI r1)).1)]) hX hE2 mk_X12_189 nkY_X12_take hE (cY_X12_take hE hF q ok hr hq a b ra rb (nI r1)) rfl Ecall.same rfl rfl rfl ⟨rfl, rfl⟩ ⟨Nat.le_of_ble_eq_true rfl, Nat.le_of_ble_eq_true rfl⟩ rfl rfl (Nat.le_of_ble_eq_true rfl) dX12_build_666 ⟨by show _ ≤ 400; omega, by show _ ≤ 4000; omega⟩) (fun u666 => ?_)
        show Y X S K A 86 721 [stB S n p a ((tkP n q (nI r1)).2), bnC S K n p b ra rb (T 4 2) (T 4 3) (T 4 4) (nI rr), wsOf S w658, rwC S n ra (T 0) (T 1), rwC S p rb (T 2) (T 3)] 669 [(13, .int (nI r1)), (12, .int (nI k)), (11, .int c), (6, .ref (a 0)), (5, .int (nI n)), (0, .ref (b 0)), (1, rf S 0), (2, .ref sc), (3, .int 8), (4, .int 8)] [.int ((tkP n q (nI r1)).1), .int ((tkP n q (nI r1)).1)]
        refine Y_icmp_eq (tgt := 674) hX dX12_build_669 (by decide) (fun _ => ?_) (fun z => absurd rfl z)
        refine Y_iinc (v := nI (k + 1)) (lv' := [(12, .int (nI (k + 1))), (13, .int (nI r1)), (11, .int c), (6, .ref (a 0)), (5, .int (nI n)), (0, .ref (b 0)), (1, rf S 0), (2, .ref sc), (3, .int 8), (4, .int 8)]) hX dX12_build_674 (j := 1) rfl (by decide) (iinc1 k) rfl ?_
        refine Y_goto (tgt := 611) hX dX12_build_677 (by decide) ?_
        refine Y_sub (lv' := [(12, .int (nI (k + 1))), (11, .int c), (6, .ref (a 0)), (5, .int (nI n)), (0, .ref (b 0)), (1, rf S 0), (2, .ref sc), (3, .int 8), (4, .int 8)]) [0, 2, 3, 4, 5, 6, 7, 8, 9] rfl ?_
        refine Y_pick (bl' := [wsOf S w658, stB S n p a ((tkP n q (nI r1)).2), bnC S K n p b ra rb (T 4 2) (T 4 3) (T 4 4) (nI rr), rwC S n ra (T 0) (T 1), rwC S p rb (T 2) (T 3)]) [2, 0, 1, 3, 4] (by decide) rfl ?_
        exact ih (k + 1) (by omega) w658 _ _ (by rw [tk_15]; exact h15) g658
      · refine Y_goto (tgt := 674) hX dX12_build_652 (by decide) ?_
        refine Y_iinc (v := nI (k + 1)) (lv' := [(12, .int (nI (k + 1))), (13, .int (nI r1)), (11, .int c), (6, .ref (a 0)), (5, .int (nI n)), (0, .ref (b 0)), (1, rf S 0), (2, .ref sc), (3, .int 8), (4, .int 8)]) hX dX12_build_674 (j := 1) rfl (by decide) (iinc1 k) rfl ?_
        refine Y_goto (tgt := 611) hX dX12_build_677 (by decide) ?_
        refine Y_sub (lv' := [(12, .int (nI (k + 1))), (11, .int c), (6, .ref (a 0)), (5, .int (nI n)), (0, .ref (b 0)), (1, rf S 0), (2, .ref sc), (3, .int 8), (4, .int 8)]) [0, 2, 3, 4, 5, 6, 7, 8, 9] rfl ?_
        exact ih (k + 1) (by omega) w q u h15 g
abbrev BuU : Type := Wd × Tw × Bl × Us × (Nat → Int32) × List Int64 × (Nat × Nat × Nat) × (Nat → Nat) × (Nat → Nat) × (Nat → Nat) × (Nat → Nat)
def buRo : BuU → Option Nat := fun v => some (v.2.2.2.2.2.2.2.1 0)
def buPhi (b0 : Nat) : BuU → Prop := fun (w, T, q, u, t, L, (n, p, rr), a, b, ra, rb) => CQ w T q n p u t 0 L ∧ RuOk T (nI rr) ∧ b 0 = b0
def buBlk (S : Sx) (K : Kx) : BuU → Bk := fun (w, T, q, u, t, L, (n, p, rr), a, b, ra, rb) => [wsOf S w, stB S n p a q, bnC S K n p b ra rb (T 4 2) (T 4 3) (T 4 4) (nI rr), rwC S n ra (T 0) (T 1), rwC S p rb (T 2) (T 3)]
set_option maxHeartbeats 8000000 in
theorem bu_8 {X : Cx} {S : Sx} {K : Kx} {A : Nat → Prop} {E : Ex} {sc N : Nat} {xs : Nat → Int32} (hE : Stb E) (hF : ∀ (A : Nat → Prop) (s : State), E A s → KF S K A s s.heap) (hx : ∀ (A : Nat → Prop) (s : State), E A s → EX S K sc N xs A s) (hV : ∀ (A : Nat → Prop) (s : State), E A s → PVs s) (hN : N < 2 ^ 31) (hX : Yok X S K A cX12_build RX12 14 rmY_X12_build) (hE2 : YE X A E)  {n p rr b0 : Nat} {a b ra rb : Nat → Nat} {T : Tw} {q : Bl} {w : Wd} {u : Us} {t : Nat → Int32} {L : List Int64} (hr : RuOk T (nI rr)) (hb0 : b 0 = b0) (h15 : q 15 = 0) (g : CQ w T q n p u t 0 L) (hR : YHGq X S K A cX12_build buRo (buPhi b0) (buBlk S K) 400 4000) : Y X S K A 86 721 [wsOf S w, stB S n p a q, bnC S K n p b ra rb (T 4 2) (T 4 3) (T 4 4) (nI rr), rwC S n ra (T 0) (T 1), rwC S p rb (T 2) (T 3)] 680 [(6, .ref (a 0)), (5, .int (nI n)), (0, .ref (b 0)), (1, rf S 0), (2, .ref sc), (3, .int 8), (4, .int 8)] [] := by
  obtain ⟨N9, K9, ok, hq⟩ := q_ok g
  have hn := ok.1
  have hp := ok.2.1
  refine Y_aload_n hX dX12_build_680 4 rfl ?_
  refine Y_bipush (v := 18) hX dX12_build_681 (by decide) ?_
  refine Y_resi hX (sub := []) (rst := [wsOf S w, stB S n p a q, bnC S K n p b ra rb (T 4 2) (T 4 3) (T 4 4) (nI rr), rwC S n ra (T 0) (T 1), rwC S p rb (T 2) (T 3)]) rfl (Y_runS (As := [.ref sc, .int 18]) (rest := []) hX hE2 mk_X12_139 nkY_X12_cell hE (cY_X12_cell hE hF hx hN 18 (by omega)) rfl Ecall.same ⟨rfl, rfl⟩ ⟨Nat.le_of_ble_eq_true rfl, Nat.le_of_ble_eq_true rfl⟩ rfl rfl (Nat.le_of_ble_eq_true rfl) dX12_build_683 ⟨by show _ ≤ 400; omega, by show _ ≤ 4000; omega⟩) (fun u683 => ?_)
  show Y X S K A 86 721 [wsOf S w, stB S n p a q, bnC S K n p b ra rb (T 4 2) (T 4 3) (T 4 4) (nI rr), rwC S n ra (T 0) (T 1), rwC S p rb (T 2) (T 3)] 686 [(6, .ref (a 0)), (5, .int (nI n)), (0, .ref (b 0)), (1, rf S 0), (2, .ref sc), (3, .int 8), (4, .int 8)] [.int (cellI N xs 18)]
  refine Y_aload_n hX dX12_build_686 4 rfl ?_
  refine Y_bipush (v := 18) hX dX12_build_687 (by decide) ?_
  refine Y_resi hX (sub := []) (rst := [wsOf S w, stB S n p a q, bnC S K n p b ra rb (T 4 2) (T 4 3) (T 4 4) (nI rr), rwC S n ra (T 0) (T 1), rwC S p rb (T 2) (T 3)]) rfl (Y_runS (As := [.ref sc, .int 18]) (rest := [.int (cellI N xs 18)]) hX hE2 mk_X12_139 nkY_X12_cell hE (cY_X12_cell hE hF hx hN 18 (by omega)) rfl Ecall.same ⟨rfl, rfl⟩ ⟨Nat.le_of_ble_eq_true rfl, Nat.le_of_ble_eq_true rfl⟩ rfl rfl (Nat.le_of_ble_eq_true rfl) dX12_build_689 ⟨by show _ ≤ 400; omega, by show _ ≤ 4000; omega⟩) (fun u689 => ?_)
  show Y X S K A 86 721 [wsOf S w, stB S n p a q, bnC S K n p b ra rb (T 4 2) (T 4 3) (T 4 4) (nI rr), rwC S n ra (T 0) (T 1), rwC S p rb (T 2) (T 3)] 692 [(6, .ref (a 0)), (5, .int (nI n)), (0, .ref (b 0)), (1, rf S 0), (2, .ref sc), (3, .int 8), (4, .int 8)] [.int (cellI N xs 18), .int (cellI N xs 18)]
  refine Y_bipush (v := 8) hX dX12_build_692 (by decide) ?_
  refine Y_ishr hX dX12_build_694 ?_
  refine Y_iconst (v := 1) hX dX12_build_695 (by decide) ?_
  refine Y_iand hX dX12_build_696 ?_
  refine Y_if_ne (tgt := 705) hX dX12_build_697 (by decide) (fun h697 => ?_) (fun h697 => ?_)
  · refine Y_bipush (v := 60) hX dX12_build_705 (by decide) ?_
    obtain ⟨sm, hsm, esm⟩ : ∃ z9 : Nat, z9 < 60 ∧ fmI (cellI N xs 18) 60 = nI z9 := fm_of _ (m := 60) (by decide) (by decide)
    replace hsm : sm < 60 := by omega
    refine Y_resi hX (sub := []) (rst := [wsOf S w, stB S n p a q, bnC S K n p b ra rb (T 4 2) (T 4 3) (T 4 4) (nI rr), rwC S n ra (T 0) (T 1), rwC S p rb (T 2) (T 3)]) rfl (Y_runS (As := [.int (cellI N xs 18), .int 60]) (rest := []) hX hE2 mk_X12_143 nkY_J9_floorMod_7cf53 hE (cY_J9_floorMod_7cf53 hE hF (cellI N xs 18) 60 (by decide)) rfl Ecall.same ⟨rfl, rfl⟩ ⟨Nat.le_of_ble_eq_true rfl, Nat.le_of_ble_eq_true rfl⟩ rfl rfl (Nat.le_of_ble_eq_true rfl) dX12_build_707 ⟨by show _ ≤ 400; omega, by show _ ≤ 4000; omega⟩) (fun u707 => ?_)
    show Y X S K A 86 721 [wsOf S w, stB S n p a q, bnC S K n p b ra rb (T 4 2) (T 4 3) (T 4 4) (nI rr), rwC S n ra (T 0) (T 1), rwC S p rb (T 2) (T 3)] 710 [(6, .ref (a 0)), (5, .int (nI n)), (0, .ref (b 0)), (1, rf S 0), (2, .ref sc), (3, .int 8), (4, .int 8)] [.int (fmI (cellI N xs 18) 60)]
    refine Y_eqi (x' := nI sm) (esm) ?_
    refine Y_istore (lv' := [(12, .int (nI sm)), (6, .ref (a 0)), (5, .int (nI n)), (0, .ref (b 0)), (1, rf S 0), (2, .ref sc), (3, .int 8), (4, .int 8)]) hX dX12_build_710 (by decide) rfl ?_
    refine Y_aload hX dX12_build_712 1 rfl ?_
    refine Y_get 1 0 hX fk_X12_102 rfl rfl rfl dX12_build_714 ?_
    refine Y_istore (lv' := [(13, .int (q 13)), (12, .int (nI sm)), (6, .ref (a 0)), (5, .int (nI n)), (0, .ref (b 0)), (1, rf S 0), (2, .ref sc), (3, .int 8), (4, .int 8)]) hX dX12_build_717 (by decide) rfl ?_
    refine Y_aload_n hX dX12_build_719 5 rfl ?_
    refine Y_iload hX dX12_build_720 1 rfl ?_
    obtain ⟨w722, e722, g722⟩ := q_min g (m := sm) (by omega)
    refine Y_callCi (w2 := w722) (v := cntL T q sm) (As := [.int (nI sm)]) (rest := []) hX hE2 hF mk_X12_192 nk_X10_minutes (fun l => c_X10_minutes l S e722) rfl tb_0 rfl ⟨rfl, rfl, Nat.le_of_ble_eq_true rfl, Nat.le_of_ble_eq_true rfl⟩ rfl rfl (Nat.le_of_ble_eq_true rfl) dX12_build_722 ⟨by show _ ≤ 400; omega, by show _ ≤ 4000; omega⟩ ?_
    show Y X S K A 86 721 [wsOf S w722, stB S n p a q, bnC S K n p b ra rb (T 4 2) (T 4 3) (T 4 4) (nI rr), rwC S n ra (T 0) (T 1), rwC S p rb (T 2) (T 3)] 725 [(13, .int (q 13)), (12, .int (nI sm)), (6, .ref (a 0)), (5, .int (nI n)), (0, .ref (b 0)), (1, rf S 0), (2, .ref sc), (3, .int 8), (4, .int 8)] [.int (cntL T q sm)]
    rw [h15, and_m1] at g722
    refine Y_aload_n hX dX12_build_725 4 rfl ?_
    refine Y_aload hX dX12_build_726 2 rfl ?_
    refine Y_iload hX dX12_build_728 1 rfl ?_
    refine Y_pick [1, 2, 3, 4, 0] (by decide) rfl ?_
    show Y X S K A 86 721 [stB S n p a q, bnC S K n p b ra rb (T 4 2) (T 4 3) (T 4 4) (nI rr), rwC S n ra (T 0) (T 1), rwC S p rb (T 2) (T 3), wsOf S w722] 730 [(13, .int (q 13)), (12, .int (nI sm)), (6, .ref (a 0)), (5, .int (nI n)), (0, .ref (b 0)), (1, rf S 0), (2, .ref sc), (3, .int 8), (4, .int 8)] [.int (nI sm), .ref (a 0), .ref (b 0), .int (cntL T q sm)]
    refine Y_resi hX (sub := [stB S n p a q, bnC S K n p b ra rb (T 4 2) (T 4 3) (T 4 4) (nI rr), rwC S n ra (T 0) (T 1), rwC S p rb (T 2) (T 3)]) (rst := [wsOf S w722]) rfl (Y_runV (b := 1) (i := 0) (As := [.ref (a 0), .int (nI sm)]) (rest := [.int (cntL T q sm)]) hX hE2 mk_X12_195 nkY_X12_goes hE (cY_X12_goes hE hF q ok hr hq a b ra rb sm (by omega)) rfl Ecall.same rfl rfl rfl ⟨rfl, rfl⟩ ⟨Nat.le_of_ble_eq_true rfl, Nat.le_of_ble_eq_true rfl⟩ rfl rfl (Nat.le_of_ble_eq_true rfl) dX12_build_730 ⟨by show _ ≤ 400; omega, by show _ ≤ 4000; omega⟩) (fun u730 => ?_)
    show Y X S K A 150 1233 [stB S n p a (itM T sm q), bnC S K n p b ra rb (T 4 2) (T 4 3) (T 4 4) (nI rr), rwC S n ra (T 0) (T 1), rwC S p rb (T 2) (T 3), wsOf S w722] 733 [(13, .int (q 13)), (12, .int (nI sm)), (6, .ref (a 0)), (5, .int (nI n)), (0, .ref (b 0)), (1, rf S 0), (2, .ref sc), (3, .int 8), (4, .int 8)] [.int (cntL T q sm), .int (cntL T q sm)]
    refine Y_icmp_ne (tgt := 767) hX dX12_build_733 (by decide) (fun z => absurd rfl z) (fun _ => ?_)
    refine Y_aload_n hX dX12_build_736 5 rfl ?_
    refine Y_iconst (v := 2) hX dX12_build_737 (by decide) ?_
    refine Y_newa (at0 := .long) (t0 := 1) (n := 2) (a0 := (2, .inr (.inl (fun _ => 0)))) hX rfl ac_long rfl (fun _ => rfl) ⟨by decide, by decide, Nat.le_of_ble_eq_true rfl⟩ ⟨by show _ ≤ 400; omega, by show _ ≤ 4000; omega⟩ dX12_build_738 (fun qd => ?_)
    show Y X S K A 151 1235 [stB S n p a (itM T sm q), bnC S K n p b ra rb (T 4 2) (T 4 3) (T 4 4) (nI rr), rwC S n ra (T 0) (T 1), rwC S p rb (T 2) (T 3), wsOf S w722, [(qd, .inl (cAr S 1, 2, .inr (.inl (fun _ => 0))))]] 740 [(13, .int (q 13)), (12, .int (nI sm)), (6, .ref (a 0)), (5, .int (nI n)), (0, .ref (b 0)), (1, rf S 0), (2, .ref sc), (3, .int 8), (4, .int 8)] [.ref qd, rf S 0]
    refine Y_dup hX dX12_build_740 rfl ?_
    refine Y_iconst (v := 0) hX dX12_build_741 (by decide) ?_
    refine Y_aload hX dX12_build_742 2 rfl ?_
    refine Y_get 0 0 hX fk_X12_102 rfl rfl rfl dX12_build_744 ?_
    refine Y_iload hX dX12_build_747 0 rfl ?_
    refine Y_isub hX dX12_build_749 ?_
    refine Y_i2l hX dX12_build_750 ?_
    refine Y_last 5 0 hX rfl rfl (inB_in (by decide)) dX12_build_751 ?_
    show Y X S K A 151 1235 [stB S n p a (itM T sm q), bnC S K n p b ra rb (T 4 2) (T 4 3) (T 4 4) (nI rr), rwC S n ra (T 0) (T 1), rwC S p rb (T 2) (T 3), wsOf S w722, [(qd, .inl (cAr S 1, 2, .inr (.inl (vp_updL (fun _ => 0) (0 : Int32).toNatClampNeg (Int32.toInt64 (((itM T sm q) 13) - (q 13)))))))]] 752 [(13, .int (q 13)), (12, .int (nI sm)), (6, .ref (a 0)), (5, .int (nI n)), (0, .ref (b 0)), (1, rf S 0), (2, .ref sc), (3, .int 8), (4, .int 8)] [.ref qd, rf S 0]
    refine Y_dup hX dX12_build_752 rfl ?_
    refine Y_iconst (v := 1) hX dX12_build_753 (by decide) ?_
    refine Y_aload hX dX12_build_754 2 rfl ?_
    refine Y_resi hX (sub := [stB S n p a (itM T sm q)]) (rst := [bnC S K n p b ra rb (T 4 2) (T 4 3) (T 4 4) (nI rr), rwC S n ra (T 0) (T 1), rwC S p rb (T 2) (T 3), wsOf S w722, [(qd, .inl (cAr S 1, 2, .inr (.inl (vp_updL (fun _ => 0) (0 : Int32).toNatClampNeg (Int32.toInt64 (((itM T sm q) 13) - (q 13)))))))]]) rfl (Y_runV (b := 0) (i := 0) (As := []) (rest := [.int 1, .ref qd, .ref qd, rf S 0]) hX hE2 mk_X12_198 nkY_X11_doubt hE (cY_X11_doubt hE hF n p a (tir (itM T sm q)) (rop (itM T sm q)) (dou (itM T sm q)) ((itM T sm q) 9) ((itM T sm q) 10) ((itM T sm q) 11) ((itM T sm q) 12) ((itM T sm q) 13) ((itM T sm q) 14) ok.1 ok.2.1) rfl Ecall.same rfl rfl rfl ⟨rfl, rfl⟩ ⟨Nat.le_of_ble_eq_true rfl, Nat.le_of_ble_eq_true rfl⟩ rfl rfl (Nat.le_of_ble_eq_true rfl) dX12_build_756 ⟨by show _ ≤ 400; omega, by show _ ≤ 4000; omega⟩) (fun u756 => ?_)
    show Y X S K A 151 1235 [stB S n p a (itM T sm q), bnC S K n p b ra rb (T 4 2) (T 4 3) (T 4 4) (nI rr), rwC S n ra (T 0) (T 1), rwC S p rb (T 2) (T 3), wsOf S w722, [(qd, .inl (cAr S 1, 2, .inr (.inl (vp_updL (fun _ => 0) (0 : Int32).toNatClampNeg (Int32.toInt64 (((itM T sm q) 13) - (q 13)))))))]] 759 [(13, .int (q 13)), (12, .int (nI sm)), (6, .ref (a 0)), (5, .int (nI n)), (0, .ref (b 0)), (1, rf S 0), (2, .ref sc), (3, .int 8), (4, .int 8)] [.int (bitsL (dou (itM T sm q)) p), .int 1, .ref qd, .ref qd, rf S 0]
    refine Y_eqi (x' := (itM T sm q) 15) (doubt_b ok.2.1 (BlI_it ok sm K9 q hq)) ?_
    refine Y_i2l hX dX12_build_759 ?_
    refine Y_last 5 0 hX rfl rfl (inB_in (by decide)) dX12_build_760 ?_
    show Y X S K A 151 1235 [stB S n p a (itM T sm q), bnC S K n p b ra rb (T 4 2) (T 4 3) (T 4 4) (nI rr), rwC S n ra (T 0) (T 1), rwC S p rb (T 2) (T 3), wsOf S w722, [(qd, .inl (cAr S 1, 2, .inr (.inl (vp_updL (vp_updL (fun _ => 0) (0 : Int32).toNatClampNeg (Int32.toInt64 (((itM T sm q) 13) - (q 13)))) (1 : Int32).toNatClampNeg (Int32.toInt64 ((itM T sm q) 15))))))]] 761 [(13, .int (q 13)), (12, .int (nI sm)), (6, .ref (a 0)), (5, .int (nI n)), (0, .ref (b 0)), (1, rf S 0), (2, .ref sc), (3, .int 8), (4, .int 8)] [.ref qd, rf S 0]
    refine Y_pick [4, 5, 0, 1, 2, 3] (by decide) rfl ?_
    show Y X S K A 151 1235 [wsOf S w722, [(qd, .inl (cAr S 1, 2, .inr (.inl (vp_updL (vp_updL (fun _ => 0) (0 : Int32).toNatClampNeg (Int32.toInt64 (((itM T sm q) 13) - (q 13)))) (1 : Int32).toNatClampNeg (Int32.toInt64 ((itM T sm q) 15))))))], stB S n p a (itM T sm q), bnC S K n p b ra rb (T 4 2) (T 4 3) (T 4 4) (nI rr), rwC S n ra (T 0) (T 1), rwC S p rb (T 2) (T 3)] 761 [(13, .int (q 13)), (12, .int (nI sm)), (6, .ref (a 0)), (5, .int (nI n)), (0, .ref (b 0)), (1, rf S 0), (2, .ref sc), (3, .int 8), (4, .int 8)] [.ref qd, rf S 0]
    refine Y_resEi hX (sub := [wsOf S w722, [(qd, .inl (cAr S 1, 2, .inr (.inl (vp_updL (vp_updL (fun _ => 0) (0 : Int32).toNatClampNeg (Int32.toInt64 (((itM T sm q) 13) - (q 13)))) (1 : Int32).toNatClampNeg (Int32.toInt64 ((itM T sm q) 15))))))]]) (rst := [stB S n p a (itM T sm q), bnC S K n p b ra rb (T 4 2) (T 4 3) (T 4 4) (nI rr), rwC S n ra (T 0) (T 1), rwC S p rb (T 2) (T 3)]) rfl (Y_runS (As := [rf S 0, .ref qd]) (rest := []) hX hE2 mk_X12_51 nkY_X12_isRow hE (cY_X12_isRow hE hF g722 qd 2 (vp_updL (vp_updL (fun _ => 0) (0 : Int32).toNatClampNeg (Int32.toInt64 (((itM T sm q) 13) - (q 13)))) (1 : Int32).toNatClampNeg (Int32.toInt64 ((itM T sm q) 15))) (by decide) rfl (row2 _ _ _)) rfl Ecall.same ⟨rfl, rfl⟩ ⟨Nat.le_of_ble_eq_true rfl, Nat.le_of_ble_eq_true rfl⟩ rfl rfl (Nat.le_of_ble_eq_true rfl) dX12_build_761 ⟨by show _ ≤ 400; omega, by show _ ≤ 4000; omega⟩) (fun u761 hu761 => ?_)
    show Y X S K A 153 1247 [wsOf S u761.2.1, [(qd, .inl (cAr S 1, 2, .inr (.inl (vp_updL (vp_updL (fun _ => 0) (0 : Int32).toNatClampNeg (Int32.toInt64 (((itM T sm q) 13) - (q 13)))) (1 : Int32).toNatClampNeg (Int32.toInt64 ((itM T sm q) 15))))))], stB S n p a (itM T sm q), bnC S K n p b ra rb (T 4 2) (T 4 3) (T 4 4) (nI rr), rwC S n ra (T 0) (T 1), rwC S p rb (T 2) (T 3)] 764 [(13, .int (q 13)), (12, .int (nI sm)), (6, .ref (a 0)), (5, .int (nI n)), (0, .ref (b 0)), (1, rf S 0), (2, .ref sc), (3, .int 8), (4, .int 8)] [.int 1]
    refine Y_if_ne (tgt := 769) hX dX12_build_764 (by decide) (fun _ => ?_) (fun z => absurd z (show ¬ (1 : Int32) = 0 by decide))
    refine Y_aload_n hX dX12_build_769 4 rfl ?_
    refine Y_aload_n hX dX12_build_770 5 rfl ?_
    refine Y_aload hX dX12_build_771 2 rfl ?_
    refine Y_pick [0, 2, 3, 4, 5, 1] (by decide) rfl ?_
    show Y X S K A 153 1247 [wsOf S u761.2.1, stB S n p a (itM T sm q), bnC S K n p b ra rb (T 4 2) (T 4 3) (T 4 4) (nI rr), rwC S n ra (T 0) (T 1), rwC S p rb (T 2) (T 3), [(qd, .inl (cAr S 1, 2, .inr (.inl (vp_updL (vp_updL (fun _ => 0) (0 : Int32).toNatClampNeg (Int32.toInt64 (((itM T sm q) 13) - (q 13)))) (1 : Int32).toNatClampNeg (Int32.toInt64 ((itM T sm q) 15))))))]] 773 [(13, .int (q 13)), (12, .int (nI sm)), (6, .ref (a 0)), (5, .int (nI n)), (0, .ref (b 0)), (1, rf S 0), (2, .ref sc), (3, .int 8), (4, .int 8)] [.ref (a 0), rf S 0, .ref (b 0)]
    refine Y_resEi hX (sub := [wsOf S u761.2.1, stB S n p a (itM T sm q), bnC S K n p b ra rb (T 4 2) (T 4 3) (T 4 4) (nI rr), rwC S n ra (T 0) (T 1), rwC S p rb (T 2) (T 3)]) (rst := [[(qd, .inl (cAr S 1, 2, .inr (.inl (vp_updL (vp_updL (fun _ => 0) (0 : Int32).toNatClampNeg (Int32.toInt64 (((itM T sm q) 13) - (q 13)))) (1 : Int32).toNatClampNeg (Int32.toInt64 ((itM T sm q) 15))))))]]) rfl (Y_runV (b := 2) (i := 0) (As := [rf S 0, .ref (a 0)]) (rest := []) hX hE2 mk_X12_201 nkY_X12_isAs hE (cY_X12_isAs hE hF (itM T sm q) hu761 hr a b ra rb) rfl Ecall.same rfl rfl rfl ⟨rfl, rfl⟩ ⟨Nat.le_of_ble_eq_true rfl, Nat.le_of_ble_eq_true rfl⟩ rfl rfl (Nat.le_of_ble_eq_true rfl) dX12_build_773 ⟨by show _ ≤ 400; omega, by show _ ≤ 4000; omega⟩) (fun u773 hu773 => ?_)
    show Y X S K A 217 1759 [wsOf S u773.2.1, stB S n p a (itM T sm q), bnC S K n p b ra rb (T 4 2) (T 4 3) (T 4 4) (nI rr), rwC S n ra (T 0) (T 1), rwC S p rb (T 2) (T 3), [(qd, .inl (cAr S 1, 2, .inr (.inl (vp_updL (vp_updL (fun _ => 0) (0 : Int32).toNatClampNeg (Int32.toInt64 (((itM T sm q) 13) - (q 13)))) (1 : Int32).toNatClampNeg (Int32.toInt64 ((itM T sm q) 15))))))]] 776 [(13, .int (q 13)), (12, .int (nI sm)), (6, .ref (a 0)), (5, .int (nI n)), (0, .ref (b 0)), (1, rf S 0), (2, .ref sc), (3, .int 8), (4, .int 8)] [.int 1]
    refine Y_if_eq (tgt := 784) hX dX12_build_776 (by decide) (fun z => absurd z (show ¬ (1 : Int32) = 0 by decide)) (fun _ => ?_)
    refine Y_aload hX dX12_build_779 2 rfl ?_
    refine Y_goto (tgt := 785) hX dX12_build_781 (by decide) ?_
    refine Y_pick (bl' := [wsOf S u773.2.1, stB S n p a (itM T sm q), bnC S K n p b ra rb (T 4 2) (T 4 3) (T 4 4) (nI rr), rwC S n ra (T 0) (T 1), rwC S p rb (T 2) (T 3)]) [0, 1, 2, 3, 4] (by decide) rfl ?_
    refine Y_wd (kc' := 400) (kn' := 4000) (by omega) (by omega) ?_
    exact hR (u773.2.1, T, itM T sm q, psh q u, t, [i64 ((itM T sm q) 13 - q 13), i64 ((itM T sm q) 15)], (n, p, rr), a, b, ra, rb) _ _ ⟨hu773, hr, hb0⟩ dX12_build_785
  · refine Y_bipush (v := 6) hX dX12_build_700 (by decide) ?_
    refine Y_goto (tgt := 707) hX dX12_build_702 (by decide) ?_
    obtain ⟨sm, hsm, esm⟩ : ∃ z9 : Nat, z9 < 6 ∧ fmI (cellI N xs 18) 6 = nI z9 := fm_of _ (m := 6) (by decide) (by decide)
    replace hsm : sm < 60 := by omega
    refine Y_resi hX (sub := []) (rst := [wsOf S w, stB S n p a q, bnC S K n p b ra rb (T 4 2) (T 4 3) (T 4 4) (nI rr), rwC S n ra (T 0) (T 1), rwC S p rb (T 2) (T 3)]) rfl (Y_runS (As := [.int (cellI N xs 18), .int 6]) (rest := []) hX hE2 mk_X12_143 nkY_J9_floorMod_7cf53 hE (cY_J9_floorMod_7cf53 hE hF (cellI N xs 18) 6 (by decide)) rfl Ecall.same ⟨rfl, rfl⟩ ⟨Nat.le_of_ble_eq_true rfl, Nat.le_of_ble_eq_true rfl⟩ rfl rfl (Nat.le_of_ble_eq_true rfl) dX12_build_707 ⟨by show _ ≤ 400; omega, by show _ ≤ 4000; omega⟩) (fun u707 => ?_)
    show Y X S K A 86 721 [wsOf S w, stB S n p a q, bnC S K n p b ra rb (T 4 2) (T 4 3) (T 4 4) (nI rr), rwC S n ra (T 0) (T 1), rwC S p rb (T 2) (T 3)] 710 [(6, .ref (a 0)), (5, .int (nI n)), (0, .ref (b 0)), (1, rf S 0), (2, .ref sc), (3, .int 8), (4, .int 8)] [.int (fmI (cellI N xs 18) 6)]
    refine Y_eqi (x' := nI sm) (esm) ?_
    refine Y_istore (lv' := [(12, .int (nI sm)), (6, .ref (a 0)), (5, .int (nI n)), (0, .ref (b 0)), (1, rf S 0), (2, .ref sc), (3, .int 8), (4, .int 8)]) hX dX12_build_710 (by decide) rfl ?_
    refine Y_aload hX dX12_build_712 1 rfl ?_
    refine Y_get 1 0 hX fk_X12_102 rfl rfl rfl dX12_build_714 ?_
    refine Y_istore (lv' := [(13, .int (q 13)), (12, .int (nI sm)), (6, .ref (a 0)), (5, .int (nI n)), (0, .ref (b 0)), (1, rf S 0), (2, .ref sc), (3, .int 8), (4, .int 8)]) hX dX12_build_717 (by decide) rfl ?_
    refine Y_aload_n hX dX12_build_719 5 rfl ?_
    refine Y_iload hX dX12_build_720 1 rfl ?_
    obtain ⟨w722, e722, g722⟩ := q_min g (m := sm) (by omega)
    refine Y_callCi (w2 := w722) (v := cntL T q sm) (As := [.int (nI sm)]) (rest := []) hX hE2 hF mk_X12_192 nk_X10_minutes (fun l => c_X10_minutes l S e722) rfl tb_0 rfl ⟨rfl, rfl, Nat.le_of_ble_eq_true rfl, Nat.le_of_ble_eq_true rfl⟩ rfl rfl (Nat.le_of_ble_eq_true rfl) dX12_build_722 ⟨by show _ ≤ 400; omega, by show _ ≤ 4000; omega⟩ ?_
    show Y X S K A 86 721 [wsOf S w722, stB S n p a q, bnC S K n p b ra rb (T 4 2) (T 4 3) (T 4 4) (nI rr), rwC S n ra (T 0) (T 1), rwC S p rb (T 2) (T 3)] 725 [(13, .int (q 13)), (12, .int (nI sm)), (6, .ref (a 0)), (5, .int (nI n)), (0, .ref (b 0)), (1, rf S 0), (2, .ref sc), (3, .int 8), (4, .int 8)] [.int (cntL T q sm)]
    rw [h15, and_m1] at g722
    refine Y_aload_n hX dX12_build_725 4 rfl ?_
    refine Y_aload hX dX12_build_726 2 rfl ?_
    refine Y_iload hX dX12_build_728 1 rfl ?_
    refine Y_pick [1, 2, 3, 4, 0] (by decide) rfl ?_
    show Y X S K A 86 721 [stB S n p a q, bnC S K n p b ra rb (T 4 2) (T 4 3) (T 4 4) (nI rr), rwC S n ra (T 0) (T 1), rwC S p rb (T 2) (T 3), wsOf S w722] 730 [(13, .int (q 13)), (12, .int (nI sm)), (6, .ref (a 0)), (5, .int (nI n)), (0, .ref (b 0)), (1, rf S 0), (2, .ref sc), (3, .int 8), (4, .int 8)] [.int (nI sm), .ref (a 0), .ref (b 0), .int (cntL T q sm)]
    refine Y_resi hX (sub := [stB S n p a q, bnC S K n p b ra rb (T 4 2) (T 4 3) (T 4 4) (nI rr), rwC S n ra (T 0) (T 1), rwC S p rb (T 2) (T 3)]) (rst := [wsOf S w722]) rfl (Y_runV (b := 1) (i := 0) (As := [.ref (a 0), .int (nI sm)]) (rest := [.int (cntL T q sm)]) hX hE2 mk_X12_195 nkY_X12_goes hE (cY_X12_goes hE hF q ok hr hq a b ra rb sm (by omega)) rfl Ecall.same rfl rfl rfl ⟨rfl, rfl⟩ ⟨Nat.le_of_ble_eq_true rfl, Nat.le_of_ble_eq_true rfl⟩ rfl rfl (Nat.le_of_ble_eq_true rfl) dX12_build_730 ⟨by show _ ≤ 400; omega, by show _ ≤ 4000; omega⟩) (fun u730 => ?_)
    show Y X S K A 150 1233 [stB S n p a (itM T sm q), bnC S K n p b ra rb (T 4 2) (T 4 3) (T 4 4) (nI rr), rwC S n ra (T 0) (T 1), rwC S p rb (T 2) (T 3), wsOf S w722] 733 [(13, .int (q 13)), (12, .int (nI sm)), (6, .ref (a 0)), (5, .int (nI n)), (0, .ref (b 0)), (1, rf S 0), (2, .ref sc), (3, .int 8), (4, .int 8)] [.int (cntL T q sm), .int (cntL T q sm)]
    refine Y_icmp_ne (tgt := 767) hX dX12_build_733 (by decide) (fun z => absurd rfl z) (fun _ => ?_)
    refine Y_aload_n hX dX12_build_736 5 rfl ?_
    refine Y_iconst (v := 2) hX dX12_build_737 (by decide) ?_
    refine Y_newa (at0 := .long) (t0 := 1) (n := 2) (a0 := (2, .inr (.inl (fun _ => 0)))) hX rfl ac_long rfl (fun _ => rfl) ⟨by decide, by decide, Nat.le_of_ble_eq_true rfl⟩ ⟨by show _ ≤ 400; omega, by show _ ≤ 4000; omega⟩ dX12_build_738 (fun qd => ?_)
    show Y X S K A 151 1235 [stB S n p a (itM T sm q), bnC S K n p b ra rb (T 4 2) (T 4 3) (T 4 4) (nI rr), rwC S n ra (T 0) (T 1), rwC S p rb (T 2) (T 3), wsOf S w722, [(qd, .inl (cAr S 1, 2, .inr (.inl (fun _ => 0))))]] 740 [(13, .int (q 13)), (12, .int (nI sm)), (6, .ref (a 0)), (5, .int (nI n)), (0, .ref (b 0)), (1, rf S 0), (2, .ref sc), (3, .int 8), (4, .int 8)] [.ref qd, rf S 0]
    refine Y_dup hX dX12_build_740 rfl ?_
    refine Y_iconst (v := 0) hX dX12_build_741 (by decide) ?_
    refine Y_aload hX dX12_build_742 2 rfl ?_
    refine Y_get 0 0 hX fk_X12_102 rfl rfl rfl dX12_build_744 ?_
    refine Y_iload hX dX12_build_747 0 rfl ?_
    refine Y_isub hX dX12_build_749 ?_
    refine Y_i2l hX dX12_build_750 ?_
    refine Y_last 5 0 hX rfl rfl (inB_in (by decide)) dX12_build_751 ?_
    show Y X S K A 151 1235 [stB S n p a (itM T sm q), bnC S K n p b ra rb (T 4 2) (T 4 3) (T 4 4) (nI rr), rwC S n ra (T 0) (T 1), rwC S p rb (T 2) (T 3), wsOf S w722, [(qd, .inl (cAr S 1, 2, .inr (.inl (vp_updL (fun _ => 0) (0 : Int32).toNatClampNeg (Int32.toInt64 (((itM T sm q) 13) - (q 13)))))))]] 752 [(13, .int (q 13)), (12, .int (nI sm)), (6, .ref (a 0)), (5, .int (nI n)), (0, .ref (b 0)), (1, rf S 0), (2, .ref sc), (3, .int 8), (4, .int 8)] [.ref qd, rf S 0]
    refine Y_dup hX dX12_build_752 rfl ?_
    refine Y_iconst (v := 1) hX dX12_build_753 (by decide) ?_
    refine Y_aload hX dX12_build_754 2 rfl ?_
    refine Y_resi hX (sub := [stB S n p a (itM T sm q)]) (rst := [bnC S K n p b ra rb (T 4 2) (T 4 3) (T 4 4) (nI rr), rwC S n ra (T 0) (T 1), rwC S p rb (T 2) (T 3), wsOf S w722, [(qd, .inl (cAr S 1, 2, .inr (.inl (vp_updL (fun _ => 0) (0 : Int32).toNatClampNeg (Int32.toInt64 (((itM T sm q) 13) - (q 13)))))))]]) rfl (Y_runV (b := 0) (i := 0) (As := []) (rest := [.int 1, .ref qd, .ref qd, rf S 0]) hX hE2 mk_X12_198 nkY_X11_doubt hE (cY_X11_doubt hE hF n p a (tir (itM T sm q)) (rop (itM T sm q)) (dou (itM T sm q)) ((itM T sm q) 9) ((itM T sm q) 10) ((itM T sm q) 11) ((itM T sm q) 12) ((itM T sm q) 13) ((itM T sm q) 14) ok.1 ok.2.1) rfl Ecall.same rfl rfl rfl ⟨rfl, rfl⟩ ⟨Nat.le_of_ble_eq_true rfl, Nat.le_of_ble_eq_true rfl⟩ rfl rfl (Nat.le_of_ble_eq_true rfl) dX12_build_756 ⟨by show _ ≤ 400; omega, by show _ ≤ 4000; omega⟩) (fun u756 => ?_)
    show Y X S K A 151 1235 [stB S n p a (itM T sm q), bnC S K n p b ra rb (T 4 2) (T 4 3) (T 4 4) (nI rr), rwC S n ra (T 0) (T 1), rwC S p rb (T 2) (T 3), wsOf S w722, [(qd, .inl (cAr S 1, 2, .inr (.inl (vp_updL (fun _ => 0) (0 : Int32).toNatClampNeg (Int32.toInt64 (((itM T sm q) 13) - (q 13)))))))]] 759 [(13, .int (q 13)), (12, .int (nI sm)), (6, .ref (a 0)), (5, .int (nI n)), (0, .ref (b 0)), (1, rf S 0), (2, .ref sc), (3, .int 8), (4, .int 8)] [.int (bitsL (dou (itM T sm q)) p), .int 1, .ref qd, .ref qd, rf S 0]
    refine Y_eqi (x' := (itM T sm q) 15) (doubt_b ok.2.1 (BlI_it ok sm K9 q hq)) ?_
    refine Y_i2l hX dX12_build_759 ?_
    refine Y_last 5 0 hX rfl rfl (inB_in (by decide)) dX12_build_760 ?_
    show Y X S K A 151 1235 [stB S n p a (itM T sm q), bnC S K n p b ra rb (T 4 2) (T 4 3) (T 4 4) (nI rr), rwC S n ra (T 0) (T 1), rwC S p rb (T 2) (T 3), wsOf S w722, [(qd, .inl (cAr S 1, 2, .inr (.inl (vp_updL (vp_updL (fun _ => 0) (0 : Int32).toNatClampNeg (Int32.toInt64 (((itM T sm q) 13) - (q 13)))) (1 : Int32).toNatClampNeg (Int32.toInt64 ((itM T sm q) 15))))))]] 761 [(13, .int (q 13)), (12, .int (nI sm)), (6, .ref (a 0)), (5, .int (nI n)), (0, .ref (b 0)), (1, rf S 0), (2, .ref sc), (3, .int 8), (4, .int 8)] [.ref qd, rf S 0]
    refine Y_pick [4, 5, 0, 1, 2, 3] (by decide) rfl ?_
    show Y X S K A 151 1235 [wsOf S w722, [(qd, .inl (cAr S 1, 2, .inr (.inl (vp_updL (vp_updL (fun _ => 0) (0 : Int32).toNatClampNeg (Int32.toInt64 (((itM T sm q) 13) - (q 13)))) (1 : Int32).toNatClampNeg (Int32.toInt64 ((itM T sm q) 15))))))], stB S n p a (itM T sm q), bnC S K n p b ra rb (T 4 2) (T 4 3) (T 4 4) (nI rr), rwC S n ra (T 0) (T 1), rwC S p rb (T 2) (T 3)] 761 [(13, .int (q 13)), (12, .int (nI sm)), (6, .ref (a 0)), (5, .int (nI n)), (0, .ref (b 0)), (1, rf S 0), (2, .ref sc), (3, .int 8), (4, .int 8)] [.ref qd, rf S 0]
    refine Y_resEi hX (sub := [wsOf S w722, [(qd, .inl (cAr S 1, 2, .inr (.inl (vp_updL (vp_updL (fun _ => 0) (0 : Int32).toNatClampNeg (Int32.toInt64 (((itM T sm q) 13) - (q 13)))) (1 : Int32).toNatClampNeg (Int32.toInt64 ((itM T sm q) 15))))))]]) (rst := [stB S n p a (itM T sm q), bnC S K n p b ra rb (T 4 2) (T 4 3) (T 4 4) (nI rr), rwC S n ra (T 0) (T 1), rwC S p rb (T 2) (T 3)]) rfl (Y_runS (As := [rf S 0, .ref qd]) (rest := []) hX hE2 mk_X12_51 nkY_X12_isRow hE (cY_X12_isRow hE hF g722 qd 2 (vp_updL (vp_updL (fun _ => 0) (0 : Int32).toNatClampNeg (Int32.toInt64 (((itM T sm q) 13) - (q 13)))) (1 : Int32).toNatClampNeg (Int32.toInt64 ((itM T sm q) 15))) (by decide) rfl (row2 _ _ _)) rfl Ecall.same ⟨rfl, rfl⟩ ⟨Nat.le_of_ble_eq_true rfl, Nat.le_of_ble_eq_true rfl⟩ rfl rfl (Nat.le_of_ble_eq_true rfl) dX12_build_761 ⟨by show _ ≤ 400; omega, by show _ ≤ 4000; omega⟩) (fun u761 hu761 => ?_)
    show Y X S K A 153 1247 [wsOf S u761.2.1, [(qd, .inl (cAr S 1, 2, .inr (.inl (vp_updL (vp_updL (fun _ => 0) (0 : Int32).toNatClampNeg (Int32.toInt64 (((itM T sm q) 13) - (q 13)))) (1 : Int32).toNatClampNeg (Int32.toInt64 ((itM T sm q) 15))))))], stB S n p a (itM T sm q), bnC S K n p b ra rb (T 4 2) (T 4 3) (T 4 4) (nI rr), rwC S n ra (T 0) (T 1), rwC S p rb (T 2) (T 3)] 764 [(13, .int (q 13)), (12, .int (nI sm)), (6, .ref (a 0)), (5, .int (nI n)), (0, .ref (b 0)), (1, rf S 0), (2, .ref sc), (3, .int 8), (4, .int 8)] [.int 1]
    refine Y_if_ne (tgt := 769) hX dX12_build_764 (by decide) (fun _ => ?_) (fun z => absurd z (show ¬ (1 : Int32) = 0 by decide))
    refine Y_aload_n hX dX12_build_769 4 rfl ?_
    refine Y_aload_n hX dX12_build_770 5 rfl ?_
    refine Y_aload hX dX12_build_771 2 rfl ?_
    refine Y_pick [0, 2, 3, 4, 5, 1] (by decide) rfl ?_
    show Y X S K A 153 1247 [wsOf S u761.2.1, stB S n p a (itM T sm q), bnC S K n p b ra rb (T 4 2) (T 4 3) (T 4 4) (nI rr), rwC S n ra (T 0) (T 1), rwC S p rb (T 2) (T 3), [(qd, .inl (cAr S 1, 2, .inr (.inl (vp_updL (vp_updL (fun _ => 0) (0 : Int32).toNatClampNeg (Int32.toInt64 (((itM T sm q) 13) - (q 13)))) (1 : Int32).toNatClampNeg (Int32.toInt64 ((itM T sm q) 15))))))]] 773 [(13, .int (q 13)), (12, .int (nI sm)), (6, .ref (a 0)), (5, .int (nI n)), (0, .ref (b 0)), (1, rf S 0), (2, .ref sc), (3, .int 8), (4, .int 8)] [.ref (a 0), rf S 0, .ref (b 0)]
    refine Y_resEi hX (sub := [wsOf S u761.2.1, stB S n p a (itM T sm q), bnC S K n p b ra rb (T 4 2) (T 4 3) (T 4 4) (nI rr), rwC S n ra (T 0) (T 1), rwC S p rb (T 2) (T 3)]) (rst := [[(qd, .inl (cAr S 1, 2, .inr (.inl (vp_updL (vp_updL (fun _ => 0) (0 : Int32).toNatClampNeg (Int32.toInt64 (((itM T sm q) 13) - (q 13)))) (1 : Int32).toNatClampNeg (Int32.toInt64 ((itM T sm q) 15))))))]]) rfl (Y_runV (b := 2) (i := 0) (As := [rf S 0, .ref (a 0)]) (rest := []) hX hE2 mk_X12_201 nkY_X12_isAs hE (cY_X12_isAs hE hF (itM T sm q) hu761 hr a b ra rb) rfl Ecall.same rfl rfl rfl ⟨rfl, rfl⟩ ⟨Nat.le_of_ble_eq_true rfl, Nat.le_of_ble_eq_true rfl⟩ rfl rfl (Nat.le_of_ble_eq_true rfl) dX12_build_773 ⟨by show _ ≤ 400; omega, by show _ ≤ 4000; omega⟩) (fun u773 hu773 => ?_)
    show Y X S K A 217 1759 [wsOf S u773.2.1, stB S n p a (itM T sm q), bnC S K n p b ra rb (T 4 2) (T 4 3) (T 4 4) (nI rr), rwC S n ra (T 0) (T 1), rwC S p rb (T 2) (T 3), [(qd, .inl (cAr S 1, 2, .inr (.inl (vp_updL (vp_updL (fun _ => 0) (0 : Int32).toNatClampNeg (Int32.toInt64 (((itM T sm q) 13) - (q 13)))) (1 : Int32).toNatClampNeg (Int32.toInt64 ((itM T sm q) 15))))))]] 776 [(13, .int (q 13)), (12, .int (nI sm)), (6, .ref (a 0)), (5, .int (nI n)), (0, .ref (b 0)), (1, rf S 0), (2, .ref sc), (3, .int 8), (4, .int 8)] [.int 1]
    refine Y_if_eq (tgt := 784) hX dX12_build_776 (by decide) (fun z => absurd z (show ¬ (1 : Int32) = 0 by decide)) (fun _ => ?_)
    refine Y_aload hX dX12_build_779 2 rfl ?_
    refine Y_goto (tgt := 785) hX dX12_build_781 (by decide) ?_
    refine Y_pick (bl' := [wsOf S u773.2.1, stB S n p a (itM T sm q), bnC S K n p b ra rb (T 4 2) (T 4 3) (T 4 4) (nI rr), rwC S n ra (T 0) (T 1), rwC S p rb (T 2) (T 3)]) [0, 1, 2, 3, 4] (by decide) rfl ?_
    refine Y_wd (kc' := 400) (kn' := 4000) (by omega) (by omega) ?_
    exact hR (u773.2.1, T, itM T sm q, psh q u, t, [i64 ((itM T sm q) 13 - q 13), i64 ((itM T sm q) 15)], (n, p, rr), a, b, ra, rb) _ _ ⟨hu773, hr, hb0⟩ dX12_build_785
theorem cY_X12_build {S : Sx} {K : Kx} {E : Ex} (hE : Stb E) (hF : ∀ (A : Nat → Prop) (s : State), E A s → KF S K A s s.heap) {sc N : Nat} {xs : Nat → Int32} (hx : ∀ (A : Nat → Prop) (s : State), E A s → EX S K sc N xs A s) (hV : ∀ (A : Nat → Prop) (s : State), E A s → PVs s) (hN : N < 2 ^ 31) {b : Nat} {w : Wd} {T : Tw} {u : Us} {t : Nat → Int32} {L : List Int64} (hT : T 4 2 = 5 ∧ T 4 3 = 0 ∧ T 4 4 = 2) (g : CQ w T q00 0 0 u t 0 L) : CY S K E yX12_build cX12_build 14 (some (.object "MustNotStopLaw$Bench$State")) rmY_X12_build [.ref b, rf S 0, .ref sc, .int 8, .int 8] [wsOf S w, [(b, .inr (14, [.null, .null, .int 0, .int 0, .int 0, .int 0]))]] (QGq S [wsOf S w, [(b, .inr (14, [.null, .null, .int 0, .int 0, .int 0, .int 0]))]] buRo (buPhi b) (buBlk S K)) 400 4000 := by
  refine y_metGq (own := RX12) (.inl ⟨_, rfl⟩) (by decide +kernel) rfl (Nat.le_of_ble_eq_true rfl) hE (fun X A hX hE2 hI hR => ?_)
  refine bu_1 hE hF hx hV hN hX hE2 hT g (fun n rr o1 a0 a1 a2 w1 T1 t1 hn hrr hb1 g1 => ?_)
  refine bu_2 hE hF hx hV hN hX hE2 hn (fun w2 T2 ra2 u2 t2 hb2 g2 => ?_) n 0 (by omega) w1 T1 _ u t1 hb1 g1
  refine bu_3 hE hF hx hV hN hX hE2 hn g2 (fun w3 q3 hq3 g3 => ?_)
  refine bu_4 hE hF hx hV hN hX hE2 hn (fun p t1 a3 hp => ?_)
  refine bu_5 hE hF hx hV hN hX hE2 hn hp (fun w5 T5 rb5 u5 t5 hb5 g5 => ?_) p 0 (by omega) w3 T2 _ u2 t2 hb2 g3
  refine bu_6 hE hF hx hV hN hX hE2 hn hp hrr hq3 hb5 g5 (fun w6 T6 c hr g6 => ?_)
  refine bu_7 hE hF hx hV hN hX hE2 (a := ad4 a0 a1 a2 a3) (b := ad4 b o1 t1 t1) hr (fun w7 q7 u7 h15 g7 => ?_) 3 0 rfl w6 q3 _ (hq3 15 (by decide)) g6
  exact bu_8 hE hF hx hV hN hX hE2 hr rfl h15 g7 hR
