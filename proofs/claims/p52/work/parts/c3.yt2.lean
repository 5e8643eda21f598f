-- ===== a text told to the class's object; its ROW looked at =====
abbrev rmY_X12_text : Room := { frames := 4, cells := 0, slots := 0, locals := 107 }
set_option maxHeartbeats 4000000 in
theorem cY_X12_text {S : Sx} {K : Kx} {E : Ex} (hE : Stb E) (hF : ∀ (A : Nat → Prop) (s : State), E A s → KF S K A s s.heap) (x : Sk) (hT : ∀ (A : Nat → Prop) (s : State), E A s → StrAt x A s s.heap) (hL : x.2.2.length ≤ 40) (hb : ∀ k, ∃ c, c < 128 ∧ x.2.2.getD k 0 = nI c) {w : Wd} {T : Tw} {q : Bl} {r p Kk : Nat} {u : Us} {t : Nat → Int32} {L : List Int64} (h : CJ w T q r p Kk u t 0 L) : CY S K E yX12_text cX12_text 6 (some .boolean) rmY_X12_text [rf S 0, .ref x.1] ([wsOf S w]) (QEi S ([wsOf S w]) 1 (fun v => CJ v.2.1 T q r p (Kk + 100000) u (fun k => x.2.2.getD k 0) x.2.2.length L) (fun v => [wsOf S v.2.1])) 0 0 := by
  obtain ⟨m, hm, hm2, hm3⟩ : ∃ m, (x.2.2.length + 3) / 4 = m ∧ x.2.2.length ≤ 4 * m ∧ m ≤ 10 := ⟨_, rfl, by omega, by omega⟩
  refine y_metEi (own := RX12) (by decide +kernel) rfl (Nat.le_of_ble_eq_true rfl) hE (fun X A hX hE2 hI hR => ?_)
  show Y X S K A 0 0 [wsOf S w] 0 [(0, rf S 0), (1, .ref x.1)] []
  have loop : ∀ (j k : Nat), k + j = m → ∀ (w1 : Wd) (t1 : Nat → Int32), CJ w1 T q r p (Kk + 7200 * k) u t1 (4 * k) L → (∀ j, j < 4 * k → t1 j = x.2.2.getD j 0) → Y X S K A 0 0 [wsOf S w1] 13 [(3, .int (nI (4 * k))), (2, .int (nI (4 * m))), (0, rf S 0), (1, .ref x.1)] [] := by
    intro j
    induction j with
    | zero =>
      intro k hk w1 t1 h1 h2
      obtain hk : k = m := by omega
      subst hk
      refine Y_iload_n hX dX12_text_13 0 rfl ?_
      refine Y_iload_n hX dX12_text_14 1 rfl ?_
      refine Y_icmp_ge (tgt := 85) hX dX12_text_15 (by decide) (fun _ => ?_) (fun z => absurd (nI_le (Nat.le_refl _) (by omega)) z)
      refine Y_aload_n hX dX12_text_85 2 rfl ?_
      refine Y_aload_n hX dX12_text_86 3 rfl ?_
      refine Y_resi hX (sub := []) (rst := [wsOf S w1]) rfl (Y_runT (x := x) (As := []) (rest := [rf S 0]) hX hE2 (fun s h => hT A s h) mk_X12_25 nkY_J0_length_8abf5 hE (cY_J0_length_8abf5 hE hF x hT (by omega)) rfl Ecall.same ⟨rfl, rfl⟩ ⟨Nat.le_of_ble_eq_true rfl, Nat.le_of_ble_eq_true rfl⟩ rfl rfl (Nat.le_of_ble_eq_true rfl) dX12_text_87 ⟨Nat.le_of_ble_eq_true rfl, Nat.le_of_ble_eq_true rfl⟩) (fun u87 => ?_)
      show Y X S K A 0 0 [wsOf S w1] 90 [(3, .int (nI (4 * k))), (2, .int (nI (4 * k))), (0, rf S 0), (1, .ref x.1)] [.int (nI x.2.2.length), rf S 0]
      have eE : qEnd (4 * k) (nI x.2.2.length) = (1, x.2.2.length) := by unfold qEnd; rw [if_neg (nI_pos (by omega)), if_pos (nI_le hm2 (by omega)), nI_clamp (by omega)]
      obtain ⟨w90, e90, g90⟩ := k_end (F := 10000) (Nat.le_refl _) h1 (nI x.2.2.length)
      rw [eE] at e90 g90
      refine Y_callCi (w2 := w90) (v := 1) (As := [.int (nI x.2.2.length)]) (rest := []) hX hE2 hF mk_X12_39 nk_X10_end (fun l => c_X10_end l S e90) rfl tb_0 rfl ⟨rfl, rfl, Nat.le_of_ble_eq_true rfl, Nat.le_of_ble_eq_true rfl⟩ rfl rfl (Nat.le_of_ble_eq_true rfl) dX12_text_90 ⟨Nat.le_of_ble_eq_true rfl, Nat.le_of_ble_eq_true rfl⟩ ?_
      show Y X S K A 0 0 [wsOf S w90] 93 [(3, .int (nI (4 * k))), (2, .int (nI (4 * k))), (0, rf S 0), (1, .ref x.1)] [.int 1]
      exact hR (fun _ => 0, w90, T) _ _ (CJ_mono (CJ_t g90 (fun k hk => h2 k (by omega))) (by omega)) rfl dX12_text_93
    | succ j0 ih =>
      intro k hk w1 t1 h1 h2
      have loop2 : ∀ (jj j : Nat), j + jj = 4 → Y X S K A 0 0 [wsOf S w1] 24 [(5, .int (nI (4 * k + j))), (4, .int (pkv x.2.2 (4 * k) j)), (3, .int (nI (4 * k))), (2, .int (nI (4 * m))), (0, rf S 0), (1, .ref x.1)] [] := by
        intro jj
        induction jj with
        | zero =>
          intro j hj
          obtain hj : j = 4 := by omega
          subst hj
          refine Y_iload hX dX12_text_24 0 rfl ?_
          refine Y_iload_n hX dX12_text_26 2 rfl ?_
          refine Y_iconst (v := 4) hX dX12_text_27 (by decide) ?_
          refine Y_iadd hX dX12_text_28 ?_
          refine Y_eqi (x' := nI (4 * k + 4)) ((show nI (4 * k) + 4 = nI (4 * k + 4) from by rw [show ((4 : Int32) = nI 4) from rfl, nI_add])) ?_
          refine Y_icmp_ge (tgt := 65) hX dX12_text_29 (by decide) (fun _ => ?_) (fun z => absurd (nI_le (Nat.le_refl _) (by omega)) z)
          refine Y_aload_n hX dX12_text_65 4 rfl ?_
          refine Y_iload hX dX12_text_66 1 rfl ?_
          have eS : qSign (4 * k) = nI (4 * k + 4) := by unfold qSign; rw [if_pos (by omega)]
          obtain ⟨w68, e68, g68⟩ := k_sign (F := 10000) (Nat.le_refl _) h1 (pkv x.2.2 (4 * k) 4)
          rw [eS] at e68
          rw [if_pos (by omega), if_pos (by omega)] at g68
          refine Y_callCi (w2 := w68) (v := nI (4 * k + 4)) (As := [.int (pkv x.2.2 (4 * k) 4)]) (rest := []) hX hE2 hF mk_X12_35 nk_X10_sign (fun l => c_X10_sign l S e68) rfl tb_0 rfl ⟨rfl, rfl, Nat.le_of_ble_eq_true rfl, Nat.le_of_ble_eq_true rfl⟩ rfl rfl (Nat.le_of_ble_eq_true rfl) dX12_text_68 ⟨Nat.le_of_ble_eq_true rfl, Nat.le_of_ble_eq_true rfl⟩ ?_
          show Y X S K A 0 0 [wsOf S w68] 71 [(5, .int (nI (4 * k + 4))), (4, .int (pkv x.2.2 (4 * k) 4)), (3, .int (nI (4 * k))), (2, .int (nI (4 * m))), (0, rf S 0), (1, .ref x.1)] [.int (nI (4 * k + 4))]
          refine Y_iload_n hX dX12_text_71 2 rfl ?_
          refine Y_iconst (v := 4) hX dX12_text_72 (by decide) ?_
          refine Y_iadd hX dX12_text_73 ?_
          refine Y_eqi (x' := nI (4 * k + 4)) ((show nI (4 * k) + 4 = nI (4 * k + 4) from by rw [show ((4 : Int32) = nI 4) from rfl, nI_add])) ?_
          refine Y_icmp_eq (tgt := 79) hX dX12_text_74 (by decide) (fun _ => ?_) (fun z => absurd (show nI (4 * k + 4) = nI (4 * k + 4) from rfl) z)
          refine Y_iinc (v := nI (4 * (k + 1))) (lv' := [(3, .int (nI (4 * (k + 1)))), (5, .int (nI (4 * k + 4))), (4, .int (pkv x.2.2 (4 * k) 4)), (2, .int (nI (4 * m))), (0, rf S 0), (1, .ref x.1)]) hX dX12_text_79 (j := 2) rfl (by decide) (show nI (4 * k) + Int32.ofInt 4 = nI (4 * (k + 1)) from by rw [show (Int32.ofInt 4 = nI 4) from rfl, nI_add]; rfl) rfl ?_
          refine Y_goto (tgt := 13) hX dX12_text_82 (by decide) ?_
          refine Y_sub (lv' := [(3, .int (nI (4 * (k + 1)))), (2, .int (nI (4 * m))), (0, rf S 0), (1, .ref x.1)]) [0, 3, 4, 5] rfl ?_
          exact ih (k + 1) (by omega) w68 _ (CJ_mono g68 (by omega)) (fun j hj => by
           unfold sgT
           by_cases c : 4 * k ≤ j ∧ j < 4 * k + 4
           · rw [if_pos c, pkv_b hb (4 * k) (j - 4 * k) (by omega), show 4 * k + (j - 4 * k) = j by omega]
           · rw [if_neg c]; exact h2 j (by omega))
        | succ jj ih2 =>
          intro j hj
          obtain ⟨c, c1, c2⟩ := hb (4 * k + j)
          refine Y_iload hX dX12_text_24 0 rfl ?_
          refine Y_iload_n hX dX12_text_26 2 rfl ?_
          refine Y_iconst (v := 4) hX dX12_text_27 (by decide) ?_
          refine Y_iadd hX dX12_text_28 ?_
          refine Y_eqi (x' := nI (4 * k + 4)) ((show nI (4 * k) + 4 = nI (4 * k + 4) from by rw [show ((4 : Int32) = nI 4) from rfl, nI_add])) ?_
          refine Y_icmp_ge (tgt := 65) hX dX12_text_29 (by decide) (fun z => absurd z (nI_ge (show 4 * k + j < 4 * k + 4 by omega) (by omega))) (fun _ => ?_)
          refine Y_iload hX dX12_text_32 1 rfl ?_
          refine Y_bipush (v := 8) hX dX12_text_34 (by decide) ?_
          refine Y_ishl hX dX12_text_36 ?_
          refine Y_iload hX dX12_text_37 0 rfl ?_
          refine Y_aload_n hX dX12_text_39 5 rfl ?_
          refine Y_resi hX (sub := []) (rst := [wsOf S w1]) rfl (Y_runT (x := x) (As := []) (rest := [.int (nI (4 * k + j)), .int (ishlI (pkv x.2.2 (4 * k) j) 8)]) hX hE2 (fun s h => hT A s h) mk_X12_25 nkY_J0_length_8abf5 hE (cY_J0_length_8abf5 hE hF x hT (by omega)) rfl Ecall.same ⟨rfl, rfl⟩ ⟨Nat.le_of_ble_eq_true rfl, Nat.le_of_ble_eq_true rfl⟩ rfl rfl (Nat.le_of_ble_eq_true rfl) dX12_text_40 ⟨Nat.le_of_ble_eq_true rfl, Nat.le_of_ble_eq_true rfl⟩) (fun u40 => ?_)
          show Y X S K A 0 0 [wsOf S w1] 43 [(5, .int (nI (4 * k + j))), (4, .int (pkv x.2.2 (4 * k) j)), (3, .int (nI (4 * k))), (2, .int (nI (4 * m))), (0, rf S 0), (1, .ref x.1)] [.int (nI x.2.2.length), .int (nI (4 * k + j)), .int (ishlI (pkv x.2.2 (4 * k) j) 8)]
          refine Y_icmp_ge (tgt := 55) hX dX12_text_43 (by decide) (fun h43 => ?_) (fun h43 => ?_)
          · refine Y_iconst (v := 0) hX dX12_text_55 (by decide) ?_
            refine Y_eqi (x' := x.2.2.getD (4 * k + j) 0) (by rw [List.getD_eq_getElem?_getD, List.getElem?_eq_none (by have := (nI_leI (a := x.2.2.length) (b := 4 * k + j) (by omega) (by omega)).mp h43; omega)]; rfl) ?_
            refine Y_ior hX dX12_text_56 ?_
            refine Y_eqi (x' := pkv x.2.2 (4 * k) (j + 1)) (rfl) ?_
            refine Y_istore (lv' := [(4, .int (pkv x.2.2 (4 * k) (j + 1))), (5, .int (nI (4 * k + j))), (3, .int (nI (4 * k))), (2, .int (nI (4 * m))), (0, rf S 0), (1, .ref x.1)]) hX dX12_text_57 (by decide) rfl ?_
            refine Y_iinc (v := nI (4 * k + (j + 1))) (lv' := [(5, .int (nI (4 * k + (j + 1)))), (4, .int (pkv x.2.2 (4 * k) (j + 1))), (3, .int (nI (4 * k))), (2, .int (nI (4 * m))), (0, rf S 0), (1, .ref x.1)]) hX dX12_text_59 (j := 1) rfl (by decide) (iinc1 _) rfl ?_
            refine Y_goto (tgt := 24) hX dX12_text_62 (by decide) ?_
            have z := ih2 (j + 1) (by omega)
            exact z
          · refine Y_aload_n hX dX12_text_46 5 rfl ?_
            refine Y_iload hX dX12_text_47 0 rfl ?_
            refine Y_resi hX (sub := []) (rst := [wsOf S w1]) rfl (Y_runT (x := x) (As := [.int (nI (4 * k + j))]) (rest := [.int (ishlI (pkv x.2.2 (4 * k) j) 8)]) hX hE2 (fun s h => hT A s h) mk_X12_31 nkY_J0_charAt_5068e hE (cY_J0_charAt_5068e hE hF x hT (4 * k + j) (by rw [← nI_ltI (by omega) (by omega)]; exact Int32.not_le.mp h43) (by omega) (by rw [c2]; exact (chI_id c c1).2)) rfl Ecall.same ⟨rfl, rfl⟩ ⟨Nat.le_of_ble_eq_true rfl, Nat.le_of_ble_eq_true rfl⟩ rfl rfl (Nat.le_of_ble_eq_true rfl) dX12_text_49 ⟨Nat.le_of_ble_eq_true rfl, Nat.le_of_ble_eq_true rfl⟩) (fun u49 => ?_)
            show Y X S K A 0 0 [wsOf S w1] 52 [(5, .int (nI (4 * k + j))), (4, .int (pkv x.2.2 (4 * k) j)), (3, .int (nI (4 * k))), (2, .int (nI (4 * m))), (0, rf S 0), (1, .ref x.1)] [.int (chI (x.2.2.getD (4 * k + j) 0)), .int (ishlI (pkv x.2.2 (4 * k) j) 8)]
            refine Y_goto (tgt := 56) hX dX12_text_52 (by decide) ?_
            refine Y_eqi (x' := x.2.2.getD (4 * k + j) 0) (by rw [c2]; exact (chI_id c c1).1) ?_
            refine Y_ior hX dX12_text_56 ?_
            refine Y_eqi (x' := pkv x.2.2 (4 * k) (j + 1)) (rfl) ?_
            refine Y_istore (lv' := [(4, .int (pkv x.2.2 (4 * k) (j + 1))), (5, .int (nI (4 * k + j))), (3, .int (nI (4 * k))), (2, .int (nI (4 * m))), (0, rf S 0), (1, .ref x.1)]) hX dX12_text_57 (by decide) rfl ?_
            refine Y_iinc (v := nI (4 * k + (j + 1))) (lv' := [(5, .int (nI (4 * k + (j + 1)))), (4, .int (pkv x.2.2 (4 * k) (j + 1))), (3, .int (nI (4 * k))), (2, .int (nI (4 * m))), (0, rf S 0), (1, .ref x.1)]) hX dX12_text_59 (j := 1) rfl (by decide) (iinc1 _) rfl ?_
            refine Y_goto (tgt := 24) hX dX12_text_62 (by decide) ?_
            have z := ih2 (j + 1) (by omega)
            exact z
      refine Y_iload_n hX dX12_text_13 0 rfl ?_
      refine Y_iload_n hX dX12_text_14 1 rfl ?_
      refine Y_icmp_ge (tgt := 85) hX dX12_text_15 (by decide) (fun z => absurd z (nI_ge (show 4 * k < 4 * m by omega) (by omega))) (fun _ => ?_)
      refine Y_iconst (v := 0) hX dX12_text_18 (by decide) ?_
      refine Y_istore (lv' := [(4, .int 0), (3, .int (nI (4 * k))), (2, .int (nI (4 * m))), (0, rf S 0), (1, .ref x.1)]) hX dX12_text_19 (by decide) rfl ?_
      refine Y_iload_n hX dX12_text_21 1 rfl ?_
      refine Y_istore (lv' := [(5, .int (nI (4 * k))), (4, .int 0), (3, .int (nI (4 * k))), (2, .int (nI (4 * m))), (0, rf S 0), (1, .ref x.1)]) hX dX12_text_22 (by decide) rfl ?_
      exact loop2 4 0 (by omega)
  refine Y_aload_n hX dX12_text_0 1 rfl ?_
  refine Y_resi hX (sub := []) (rst := [wsOf S w]) rfl (Y_runT (x := x) (As := []) (rest := []) hX hE2 (fun s h => hT A s h) mk_X12_25 nkY_J0_length_8abf5 hE (cY_J0_length_8abf5 hE hF x hT (by omega)) rfl Ecall.same ⟨rfl, rfl⟩ ⟨Nat.le_of_ble_eq_true rfl, Nat.le_of_ble_eq_true rfl⟩ rfl rfl (Nat.le_of_ble_eq_true rfl) dX12_text_1 ⟨Nat.le_of_ble_eq_true rfl, Nat.le_of_ble_eq_true rfl⟩) (fun u1 => ?_)
  show Y X S K A 0 0 [wsOf S w] 4 [(0, rf S 0), (1, .ref x.1)] [.int (nI x.2.2.length)]
  refine Y_iconst (v := 3) hX dX12_text_4 (by decide) ?_
  refine Y_iadd hX dX12_text_5 ?_
  refine Y_iconst (v := 4) hX dX12_text_6 (by decide) ?_
  refine Y_idiv hX dX12_text_7 (by decide) ?_
  refine Y_iconst (v := 4) hX dX12_text_8 (by decide) ?_
  refine Y_imul hX dX12_text_9 ?_
  refine Y_eqi (x' := nI (4 * m)) ((by rw [show ((4 : Int32) = nI 4) from rfl, show ((3 : Int32) = nI 3) from rfl, nI_add, pk_div (by omega) (by decide) (by decide), hm, pk_mul, Nat.mul_comm])) ?_
  refine Y_istore_n (lv' := [(2, .int (nI (4 * m))), (0, rf S 0), (1, .ref x.1)]) hX dX12_text_10 (by decide) rfl ?_
  refine Y_iconst (v := 0) hX dX12_text_11 (by decide) ?_
  refine Y_istore_n (lv' := [(3, .int 0), (2, .int (nI (4 * m))), (0, rf S 0), (1, .ref x.1)]) hX dX12_text_12 (by decide) rfl ?_
  exact loop m 0 (by omega) w t (CJ_mono h (by omega)) (fun k hk => absurd hk (Nat.not_lt_zero _))
