-- ===== building =====
abbrev rmY_X12_build : Room := { frames := 10, cells := 400, slots := 4000, locals := 231 }
theorem out0 {ra : Nat → Nat} : outC 0 ra = fun _ => none := by funext j; unfold outC; rw [if_neg (Nat.not_lt_zero j)]
set_option maxHeartbeats 4000000 in
theorem bu_1 {X : Cx} {S : Sx} {K : Kx} {A : Nat → Prop} {E : Ex} {sc N : Nat} {xs : Nat → Int32} (hE : Stb E) (hF : ∀ (A : Nat → Prop) (s : State), E A s → KF S K A s s.heap) (hx : ∀ (A : Nat → Prop) (s : State), E A s → EX S K sc N xs A s) (hV : ∀ (A : Nat → Prop) (s : State), E A s → PVs s) (hN : N < 2 ^ 31) (hX : Yok X S K A cX12_build RX12 14 rmY_X12_build) (hE2 : YE X A E)  {b : Nat} {w : Wd} {T : Tw} {u : Us} {t : Nat → Int32} {L : List Int64} (hT : T 4 2 = 5 ∧ T 4 3 = 0 ∧ T 4 4 = 2) (g : CQ w T q00 0 0 u t 0 L) (kk : ∀ (n rr o1 a0 a1 a2 : Nat) (w1 : Wd) (T1 : Tw) (t1 : Nat → Int32), n ≤ 8 → rr < 8 → BT T1 rr → CQ w1 T1 q00 0 0 u t1 0 L → Y X S K A 4 33 [wsOf S w1, [(b, .inr (14, [.ref o1, .null, .int 0, .int 0, .int 0, .int (nI rr)]))], [(o1, .inl (K.1 1, n, .inr (.inr (.inr (.inr (outC 0 (fun _ => 0)))))))], [(a0, .inr (13, [.ref a1, .ref a2, .int 50, .int 0, .int 0, .int 0, .int 0, .int 0, .null]))], [(a1, .inl (cAr S 0, n, .inl (fun _ => 0)))], [(a2, .inl (cAr S 2, n, .inl (fun _ => 0)))], rwC S 0 (fun _ => 0) (T1 0) (T1 1)] 90 [(7, .int (nI 0)), (6, .ref a0), (5, .int (nI n)), (0, .ref b), (1, rf S 0), (2, .ref sc), (3, .int 8), (4, .int 8)] []) : Y X S K A 0 0 [wsOf S w, [(b, .inr (14, [.null, .null, .int 0, .int 0, .int 0, .int 0]))]] 0 [(0, .ref b), (1, rf S 0), (2, .ref sc), (3, .int 8), (4, .int 8)] [] := by
  obtain ⟨n, hn, en⟩ : ∃ k, k < 9 ∧ fmI (cellI N xs 0) 9 = nI k := fm_of _ (m := 9) (by decide) (by decide)
  obtain ⟨rr, hrr, er⟩ := and7_of (ishrI (cellI N xs 0) 4)
  refine Y_aload_n hX dX12_build_0 2 rfl ?_
  refine Y_iconst (v := 0) hX dX12_build_1 (by decide) ?_
  refine Y_resi hX (sub := []) (rst := [wsOf S w, [(b, .inr (14, [.null, .null, .int 0, .int 0, .int 0, .int 0]))]]) rfl (Y_runS (As := [.ref sc, .int 0]) (rest := []) hX hE2 mk_X12_139 nkY_X12_cell hE (cY_X12_cell hE hF hx hN 0 (by omega)) rfl Ecall.same ⟨rfl, rfl⟩ ⟨Nat.le_of_ble_eq_true rfl, Nat.le_of_ble_eq_true rfl⟩ rfl rfl (Nat.le_of_ble_eq_true rfl) dX12_build_2 ⟨by show _ ≤ 400; omega, by show _ ≤ 4000; omega⟩) (fun u2 => ?_)
  show Y X S K A 0 0 [wsOf S w, [(b, .inr (14, [.null, .null, .int 0, .int 0, .int 0, .int 0]))]] 5 [(0, .ref b), (1, rf S 0), (2, .ref sc), (3, .int 8), (4, .int 8)] [.int (cellI N xs 0)]
  refine Y_iload_n hX dX12_build_5 3 rfl ?_
  refine Y_iconst (v := 1) hX dX12_build_6 (by decide) ?_
  refine Y_iadd hX dX12_build_7 ?_
  refine Y_eqi (x' := 9) ((by decide)) ?_
  refine Y_resi hX (sub := []) (rst := [wsOf S w, [(b, .inr (14, [.null, .null, .int 0, .int 0, .int 0, .int 0]))]]) rfl (Y_runS (As := [.int (cellI N xs 0), .int 9]) (rest := []) hX hE2 mk_X12_143 nkY_J9_floorMod_7cf53 hE (cY_J9_floorMod_7cf53 hE hF (cellI N xs 0) 9 (by decide)) rfl Ecall.same ⟨rfl, rfl⟩ ⟨Nat.le_of_ble_eq_true rfl, Nat.le_of_ble_eq_true rfl⟩ rfl rfl (Nat.le_of_ble_eq_true rfl) dX12_build_8 ⟨by show _ ≤ 400; omega, by show _ ≤ 4000; omega⟩) (fun u8 => ?_)
  show Y X S K A 0 0 [wsOf S w, [(b, .inr (14, [.null, .null, .int 0, .int 0, .int 0, .int 0]))]] 11 [(0, .ref b), (1, rf S 0), (2, .ref sc), (3, .int 8), (4, .int 8)] [.int (fmI (cellI N xs 0) 9)]
  refine Y_eqi (x' := nI n) (en) ?_
  refine Y_istore (lv' := [(5, .int (nI n)), (0, .ref b), (1, rf S 0), (2, .ref sc), (3, .int 8), (4, .int 8)]) hX dX12_build_11 (by decide) rfl ?_
  refine Y_aload_n hX dX12_build_13 1 rfl ?_
  refine Y_aload_n hX dX12_build_14 3 rfl ?_
  refine Y_iconst (v := 0) hX dX12_build_15 (by decide) ?_
  refine Y_resi hX (sub := []) (rst := [wsOf S w, [(b, .inr (14, [.null, .null, .int 0, .int 0, .int 0, .int 0]))]]) rfl (Y_runS (As := [.ref sc, .int 0]) (rest := [.ref b]) hX hE2 mk_X12_139 nkY_X12_cell hE (cY_X12_cell hE hF hx hN 0 (by omega)) rfl Ecall.same ⟨rfl, rfl⟩ ⟨Nat.le_of_ble_eq_true rfl, Nat.le_of_ble_eq_true rfl⟩ rfl rfl (Nat.le_of_ble_eq_true rfl) dX12_build_16 ⟨by show _ ≤ 400; omega, by show _ ≤ 4000; omega⟩) (fun u16 => ?_)
  show Y X S K A 0 0 [wsOf S w, [(b, .inr (14, [.null, .null, .int 0, .int 0, .int 0, .int 0]))]] 19 [(5, .int (nI n)), (0, .ref b), (1, rf S 0), (2, .ref sc), (3, .int 8), (4, .int 8)] [.int (cellI N xs 0), .ref b]
  refine Y_iconst (v := 4) hX dX12_build_19 (by decide) ?_
  refine Y_ishr hX dX12_build_20 ?_
  refine Y_bipush (v := 7) hX dX12_build_21 (by decide) ?_
  refine Y_iand hX dX12_build_23 ?_
  refine Y_eqi (x' := nI rr) (er) ?_
  refine Y_put 1 0 hX fw_X12_61 rfl rfl ⟨rfl, rfl, Nat.le_of_ble_eq_true rfl⟩ dX12_build_24 ?_
  show Y X S K A 0 0 [wsOf S w, [(b, .inr (14, [.null, .null, .int 0, .int 0, .int 0, .int (nI rr)]))]] 27 [(5, .int (nI n)), (0, .ref b), (1, rf S 0), (2, .ref sc), (3, .int 8), (4, .int 8)] []
  refine Y_aload_n hX dX12_build_27 2 rfl ?_
  refine Y_gets (v := .ref (K.2 0)) hX hE2 (fun s h => (hF A s h).2.2.2.2.1) fk_X12_146 dX12_build_28 ?_
  refine Y_aload_n hX dX12_build_31 1 rfl ?_
  refine Y_get 1 0 hX fk_X12_61 rfl rfl rfl dX12_build_32 ?_
  refine Y_tq hX hE2 (fun s h => (hF A s h).2.2.2.2.2.1) (vp_in_nI (by omega) (by decide)) (by rw [nI_clamp (by omega)]) dX12_build_35 ?_
  obtain ⟨K36, h36⟩ := g
  refine Y_resEi hX (sub := [wsOf S w]) (rst := [[(b, .inr (14, [.null, .null, .int 0, .int 0, .int 0, .int (nI rr)]))]]) rfl (Y_runS (As := [rf S 0, .ref (adK S (ruK rr))]) (rest := []) hX hE2 mk_X12_150 nkY_X12_text hE (cY_X12_text hE hF (ktS S (ruK rr)) (fun A s h => kt_at (hF A s h) (ruK_lt rr hrr)) (by have := kt_len (ruK rr) (ruK_lt rr hrr); exact Nat.le_trans this (by decide)) (kt_b (ruK rr) (ruK_lt rr hrr)) h36) rfl Ecall.same ⟨rfl, rfl⟩ ⟨Nat.le_of_ble_eq_true rfl, Nat.le_of_ble_eq_true rfl⟩ rfl rfl (Nat.le_of_ble_eq_true rfl) dX12_build_36 ⟨by show _ ≤ 400; omega, by show _ ≤ 4000; omega⟩) (fun u36 hu36 => ?_)
  show Y X S K A 0 0 [wsOf S u36.2.1, [(b, .inr (14, [.null, .null, .int 0, .int 0, .int 0, .int (nI rr)]))]] 39 [(5, .int (nI n)), (0, .ref b), (1, rf S 0), (2, .ref sc), (3, .int 8), (4, .int 8)] [.int 1]
  have g36 : CQ u36.2.1 T q00 0 0 u (ruT rr) (ruB rr).length L := ⟨_, hu36⟩
  refine Y_if_eq (tgt := 49) hX dX12_build_39 (by decide) (fun z => absurd z (show ¬ (1 : Int32) = 0 by decide)) (fun _ => ?_)
  refine Y_aload_n hX dX12_build_42 2 rfl ?_
  obtain ⟨w43, T43, e43, r43, g43⟩ := q_rule g36 hrr
  refine Y_callCi (w2 := w43) (v := 0) (As := []) (rest := []) hX hE2 hF mk_X12_154 nk_X10_rule (fun l => c_X10_rule l S e43) rfl tb_0 rfl ⟨rfl, rfl, Nat.le_of_ble_eq_true rfl, Nat.le_of_ble_eq_true rfl⟩ rfl rfl (Nat.le_of_ble_eq_true rfl) dX12_build_43 ⟨by show _ ≤ 400; omega, by show _ ≤ 4000; omega⟩ ?_
  show Y X S K A 0 0 [wsOf S w43, [(b, .inr (14, [.null, .null, .int 0, .int 0, .int 0, .int (nI rr)]))]] 46 [(5, .int (nI n)), (0, .ref b), (1, rf S 0), (2, .ref sc), (3, .int 8), (4, .int 8)] [.int 0]
  refine Y_if_eq (tgt := 51) hX dX12_build_46 (by decide) (fun _ => ?_) (fun z => absurd rfl z)
  refine Y_aload_n hX dX12_build_51 1 rfl ?_
  refine Y_iload hX dX12_build_52 0 rfl ?_
  refine Y_newI (n := n) hX cl_X12_156 ⟨nI_pos (by omega), nI_clamp (by omega), (by show n * 4 ≤ 536870912; omega)⟩ ⟨by show _ ≤ 400; omega, by show _ ≤ 4000; omega⟩ dX12_build_54 (fun q52 => ?_)
  show Y X S K A 1 (0 + n) [wsOf S w43, [(b, .inr (14, [.null, .null, .int 0, .int 0, .int 0, .int (nI rr)]))], [(q52, .inl (K.1 1, n, .inr (.inr (.inr (.inr (fun _ => none))))))]] 57 [(5, .int (nI n)), (0, .ref b), (1, rf S 0), (2, .ref sc), (3, .int 8), (4, .int 8)] [.ref q52, .ref b]
  refine Y_put 1 0 hX fw_X12_73 rfl rfl ⟨rfl, rfl, Nat.le_of_ble_eq_true rfl⟩ dX12_build_57 ?_
  show Y X S K A 1 (0 + n) [wsOf S w43, [(b, .inr (14, [.ref q52, .null, .int 0, .int 0, .int 0, .int (nI rr)]))], [(q52, .inl (K.1 1, n, .inr (.inr (.inr (.inr (fun _ => none))))))]] 60 [(5, .int (nI n)), (0, .ref b), (1, rf S 0), (2, .ref sc), (3, .int 8), (4, .int 8)] []
  refine Y_new hX nw_X12_56 ⟨by show _ ≤ 400; omega, by show _ ≤ 4000; omega⟩ dX12_build_60 (fun q60 => ?_)
  show Y X S K A 2 (0 + n + 9) [wsOf S w43, [(b, .inr (14, [.ref q52, .null, .int 0, .int 0, .int 0, .int (nI rr)]))], [(q52, .inl (K.1 1, n, .inr (.inr (.inr (.inr (fun _ => none))))))], [(q60, .inr (13, [.null, .null, .int 0, .int 0, .int 0, .int 0, .int 0, .int 0, .null]))]] 63 [(5, .int (nI n)), (0, .ref b), (1, rf S 0), (2, .ref sc), (3, .int 8), (4, .int 8)] [.ref q60]
  refine Y_dup hX dX12_build_63 rfl ?_
  refine Y_pick [3, 0, 1, 2] (by decide) rfl ?_
  show Y X S K A 2 (0 + n + 9) [[(q60, .inr (13, [.null, .null, .int 0, .int 0, .int 0, .int 0, .int 0, .int 0, .null]))], wsOf S w43, [(b, .inr (14, [.ref q52, .null, .int 0, .int 0, .int 0, .int (nI rr)]))], [(q52, .inl (K.1 1, n, .inr (.inr (.inr (.inr (fun _ => none))))))]] 64 [(5, .int (nI n)), (0, .ref b), (1, rf S 0), (2, .ref sc), (3, .int 8), (4, .int 8)] [.ref q60, .ref q60]
  refine Y_resv hX (sub := [[(q60, .inr (13, [.null, .null, .int 0, .int 0, .int 0, .int 0, .int 0, .int 0, .null]))]]) (rst := [wsOf S w43, [(b, .inr (14, [.ref q52, .null, .int 0, .int 0, .int 0, .int (nI rr)]))], [(q52, .inl (K.1 1, n, .inr (.inr (.inr (.inr (fun _ => none))))))]]) rfl (Y_runIN (As := []) (rest := [.ref q60]) hX hE2 ni_X11 nkY_X11_init hE (cY_X11_init hE hF q60) rfl Ecall.same ⟨rfl, rfl⟩ ⟨Nat.le_of_ble_eq_true rfl, Nat.le_of_ble_eq_true rfl⟩ rfl rfl (Nat.le_of_ble_eq_true rfl) dX12_build_64 ⟨by show _ ≤ 400; omega, by show _ ≤ 4000; omega⟩) (fun u64 => ?_)
  show Y X S K A 2 (0 + n + 9) [[(q60, .inr (13, [.null, .null, .int 50, .int 0, .int 0, .int 0, .int 0, .int 0, .null]))], wsOf S w43, [(b, .inr (14, [.ref q52, .null, .int 0, .int 0, .int 0, .int (nI rr)]))], [(q52, .inl (K.1 1, n, .inr (.inr (.inr (.inr (fun _ => none))))))]] 67 [(5, .int (nI n)), (0, .ref b), (1, rf S 0), (2, .ref sc), (3, .int 8), (4, .int 8)] [.ref q60]
  refine Y_astore (lv' := [(6, .ref q60), (5, .int (nI n)), (0, .ref b), (1, rf S 0), (2, .ref sc), (3, .int 8), (4, .int 8)]) hX dX12_build_67 (by decide) rfl ?_
  refine Y_aload hX dX12_build_69 0 rfl ?_
  refine Y_iload hX dX12_build_71 1 rfl ?_
  refine Y_newa (at0 := .int) (t0 := 0) (n := n) (a0 := (n, .inl (fun _ => 0))) hX rfl ac_int rfl (fun _ => rfl) ⟨nI_pos (by omega), nI_clamp (by omega), (by show n * 4 ≤ 536870912; omega)⟩ ⟨by show _ ≤ 400; omega, by show _ ≤ 4000; omega⟩ dX12_build_73 (fun q73 => ?_)
  show Y X S K A 3 (0 + n + 9 + n) [[(q60, .inr (13, [.null, .null, .int 50, .int 0, .int 0, .int 0, .int 0, .int 0, .null]))], wsOf S w43, [(b, .inr (14, [.ref q52, .null, .int 0, .int 0, .int 0, .int (nI rr)]))], [(q52, .inl (K.1 1, n, .inr (.inr (.inr (.inr (fun _ => none))))))], [(q73, .inl (cAr S 0, n, .inl (fun _ => 0)))]] 75 [(6, .ref q60), (5, .int (nI n)), (0, .ref b), (1, rf S 0), (2, .ref sc), (3, .int 8), (4, .int 8)] [.ref q73, .ref q60]
  refine Y_put 0 0 hX fw_X12_81 rfl rfl ⟨rfl, rfl, Nat.le_of_ble_eq_true rfl⟩ dX12_build_75 ?_
  show Y X S K A 3 (0 + n + 9 + n) [[(q60, .inr (13, [.ref q73, .null, .int 50, .int 0, .int 0, .int 0, .int 0, .int 0, .null]))], wsOf S w43, [(b, .inr (14, [.ref q52, .null, .int 0, .int 0, .int 0, .int (nI rr)]))], [(q52, .inl (K.1 1, n, .inr (.inr (.inr (.inr (fun _ => none))))))], [(q73, .inl (cAr S 0, n, .inl (fun _ => 0)))]] 78 [(6, .ref q60), (5, .int (nI n)), (0, .ref b), (1, rf S 0), (2, .ref sc), (3, .int 8), (4, .int 8)] []
  refine Y_aload hX dX12_build_78 0 rfl ?_
  refine Y_iload hX dX12_build_80 1 rfl ?_
  refine Y_newa (at0 := .boolean) (t0 := 2) (n := n) (a0 := (n, .inl (fun _ => 0))) hX rfl ac_boolean rfl (fun _ => rfl) ⟨nI_pos (by omega), nI_clamp (by omega), (by show n * 1 ≤ 536870912; omega)⟩ ⟨by show _ ≤ 400; omega, by show _ ≤ 4000; omega⟩ dX12_build_82 (fun q82 => ?_)
  show Y X S K A 4 (0 + n + 9 + n + n) [[(q60, .inr (13, [.ref q73, .null, .int 50, .int 0, .int 0, .int 0, .int 0, .int 0, .null]))], wsOf S w43, [(b, .inr (14, [.ref q52, .null, .int 0, .int 0, .int 0, .int (nI rr)]))], [(q52, .inl (K.1 1, n, .inr (.inr (.inr (.inr (fun _ => none))))))], [(q73, .inl (cAr S 0, n, .inl (fun _ => 0)))], [(q82, .inl (cAr S 2, n, .inl (fun _ => 0)))]] 84 [(6, .ref q60), (5, .int (nI n)), (0, .ref b), (1, rf S 0), (2, .ref sc), (3, .int 8), (4, .int 8)] [.ref q82, .ref q60]
  refine Y_put 0 0 hX fw_X12_77 rfl rfl ⟨rfl, rfl, Nat.le_of_ble_eq_true rfl⟩ dX12_build_84 ?_
  show Y X S K A 4 (0 + n + 9 + n + n) [[(q60, .inr (13, [.ref q73, .ref q82, .int 50, .int 0, .int 0, .int 0, .int 0, .int 0, .null]))], wsOf S w43, [(b, .inr (14, [.ref q52, .null, .int 0, .int 0, .int 0, .int (nI rr)]))], [(q52, .inl (K.1 1, n, .inr (.inr (.inr (.inr (fun _ => none))))))], [(q73, .inl (cAr S 0, n, .inl (fun _ => 0)))], [(q82, .inl (cAr S 2, n, .inl (fun _ => 0)))]] 87 [(6, .ref q60), (5, .int (nI n)), (0, .ref b), (1, rf S 0), (2, .ref sc), (3, .int 8), (4, .int 8)] []
  refine Y_iconst (v := 0) hX dX12_build_87 (by decide) ?_
  refine Y_istore (lv' := [(7, .int 0), (6, .ref q60), (5, .int (nI n)), (0, .ref b), (1, rf S 0), (2, .ref sc), (3, .int 8), (4, .int 8)]) hX dX12_build_88 (by decide) rfl ?_
  refine Y_pick (bl' := [wsOf S w43, [(b, .inr (14, [.ref q52, .null, .int 0, .int 0, .int 0, .int (nI rr)]))], [(q52, .inl (K.1 1, n, .inr (.inr (.inr (.inr (fun _ => none))))))], [(q60, .inr (13, [.ref q73, .ref q82, .int 50, .int 0, .int 0, .int 0, .int 0, .int 0, .null]))], [(q73, .inl (cAr S 0, n, .inl (fun _ => 0)))], [(q82, .inl (cAr S 2, n, .inl (fun _ => 0)))]]) [1, 2, 3, 0, 4, 5] (by decide) rfl ?_
  refine Y_wd (kc' := 4) (kn' := 33) (by omega) (by omega) ?_
  refine Y_fl (bl' := [wsOf S w43, [(b, .inr (14, [.ref q52, .null, .int 0, .int 0, .int 0, .int (nI rr)]))], [(q52, .inl (K.1 1, n, .inr (.inr (.inr (.inr (outC 0 (fun _ => 0)))))))], [(q60, .inr (13, [.ref q73, .ref q82, .int 50, .int 0, .int 0, .int 0, .int 0, .int 0, .null]))], [(q73, .inl (cAr S 0, n, .inl (fun _ => 0)))], [(q82, .inl (cAr S 2, n, .inl (fun _ => 0)))], rwC S 0 (fun _ => 0) (T43 0) (T43 1)]) (by rw [out0]; rfl) ?_
  exact kk n rr q52 q60 q73 q82 w43 T43 _ (by omega) hrr (BT_rule hrr hT.1 hT.2.1 hT.2.2 r43) g43
