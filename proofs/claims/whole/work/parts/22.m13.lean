-- MustNotStopModel.team(I)I
abbrev rm_X11_team : Room := { frames := 9, cells := 0, slots := 0, locals := 241 }
theorem nk_X11_team : MNk yX11_team RX11 1 := ⟨rfl, by decide, by decide, by decide +kernel⟩
def K_X11_team_120 (F : Nat) (x1 : Int32) (k127 : Wd → Int32 → Option (Int32 × Wd)) (rc : Wd → Int32 → Int32 → Option (Int32 × Wd)) (w : Wd) (x30 : Int32) (x31 : Int32) : Option (Int32 × Wd) := lt (x30 + 1 : Int32) (fun x32 => rc w x31 x32)
set_option maxRecDepth 100000 in
set_option maxHeartbeats 4000000 in
theorem sK_X11_team_120 {X : Cx} {S : Sx} {r : Int32 × Wd} {F : Nat} {x1 : Int32} {k127 : Wd → Int32 → Option (Int32 × Wd)} {rc : Wd → Int32 → Int32 → Option (Int32 × Wd)} {w : Wd} {x30 : Int32} {x31 : Int32} (hX : Ok X S cX11_team RX11 7 rm_X11_team) (hR : HRt X S cX11_team .int r)  (hk127 : ∀ (w : Wd) (x8 : Int32) , k127 w x8 = some r → V X S w 127 [(0, rf S 88), (2, .int x8)] []) (hrc : ∀ (w : Wd) (x6 : Int32) (x7 : Int32) , rc w x6 x7 = some r → V X S w 23 [(0, rf S 88), (1, .int x1), (2, .int x6), (3, .int x7)] [])  (hP : K_X11_team_120 F x1 k127 rc w x30 x31 = some r) : V X S w 120 [(0, rf S 88), (1, .int x1), (3, .int x30)] [.int x31] := by
  unfold K_X11_team_120 at hP
  refine V_istore_n (lv' := [(2, .int x31), (0, rf S 88), (1, .int x1), (3, .int x30)]) hX dX11_team_120 (by decide) rfl ?_
  obtain ⟨x32, ex32⟩ : ∃ y : Int32, y = x30 + 1 := ⟨_, rfl⟩
  replace hP := lt_r ex32 hP
  refine V_iinc (v := x32) (lv' := [(3, .int x32), (2, .int x31), (0, rf S 88), (1, .int x1)]) hX dX11_team_121 (j := 3) rfl (by decide) (by rw [ex32]; rfl) rfl ?_
  refine V_goto (tgt := 23) hX dX11_team_124 (by decide) ?_
  refine V_sub (lv' := [(0, rf S 88), (1, .int x1), (2, .int x31), (3, .int x32)]) [2, 3, 1, 0] rfl ?_
  exact hrc _ _ _  hP
def K_X11_team_119 (F : Nat) (x1 : Int32) (k127 : Wd → Int32 → Option (Int32 × Wd)) (rc : Wd → Int32 → Int32 → Option (Int32 × Wd)) (w : Wd) (x28 : Int32) (x29 : Int32) : Option (Int32 × Wd) := K_X11_team_120 F x1 k127 rc w x29 x28
set_option maxRecDepth 100000 in
set_option maxHeartbeats 4000000 in
theorem sK_X11_team_119 {X : Cx} {S : Sx} {r : Int32 × Wd} {F : Nat} {x1 : Int32} {k127 : Wd → Int32 → Option (Int32 × Wd)} {rc : Wd → Int32 → Int32 → Option (Int32 × Wd)} {w : Wd} {x28 : Int32} {x29 : Int32} (hX : Ok X S cX11_team RX11 7 rm_X11_team) (hR : HRt X S cX11_team .int r)  (hk127 : ∀ (w : Wd) (x8 : Int32) , k127 w x8 = some r → V X S w 127 [(0, rf S 88), (2, .int x8)] []) (hrc : ∀ (w : Wd) (x6 : Int32) (x7 : Int32) , rc w x6 x7 = some r → V X S w 23 [(0, rf S 88), (1, .int x1), (2, .int x6), (3, .int x7)] [])  (hP : K_X11_team_119 F x1 k127 rc w x28 x29 = some r) : V X S w 119 [(0, rf S 88), (1, .int x1), (2, .int x28), (3, .int x29)] [] := by
  unfold K_X11_team_119 at hP
  refine V_iload_n hX dX11_team_119 2 rfl ?_
  refine V_sub (lv' := [(0, rf S 88), (1, .int x1), (3, .int x29)]) [0, 1, 3] rfl ?_
  exact sK_X11_team_120 hX hR  hk127 hrc  hP
def K_X11_team_92 (F : Nat) (x1 : Int32) (k127 : Wd → Int32 → Option (Int32 × Wd)) (rc : Wd → Int32 → Int32 → Option (Int32 × Wd)) (w : Wd) (x23 : Int32) (x24 : Int32) (x25 : Int32) (x26 : Int32) : Option (Int32 × Wd) := (if (3 : Int32) < x25 then K_X11_team_119 F x1 k127 rc w x23 x24 else (if x26 = 0 then K_X11_team_119 F x1 k127 rc w x23 x24 else bnd (P_X11_rungBy F w x24 x1) (fun x35 w34 => lt (if x35 = x1 then x24 else x23 : Int32) (fun x37 => lt (x24 + 1 : Int32) (fun x38 => rc w34 x37 x38)))))
set_option maxRecDepth 100000 in
set_option maxHeartbeats 4000000 in
theorem sK_X11_team_92 {X : Cx} {S : Sx} {r : Int32 × Wd} {F : Nat} {x1 : Int32} {k127 : Wd → Int32 → Option (Int32 × Wd)} {rc : Wd → Int32 → Int32 → Option (Int32 × Wd)} {w : Wd} {x23 : Int32} {x24 : Int32} {x25 : Int32} {x26 : Int32} (hX : Ok X S cX11_team RX11 7 rm_X11_team) (hR : HRt X S cX11_team .int r)  (hk127 : ∀ (w : Wd) (x8 : Int32) , k127 w x8 = some r → V X S w 127 [(0, rf S 88), (2, .int x8)] []) (hrc : ∀ (w : Wd) (x6 : Int32) (x7 : Int32) , rc w x6 x7 = some r → V X S w 23 [(0, rf S 88), (1, .int x1), (2, .int x6), (3, .int x7)] [])  (hP : K_X11_team_92 F x1 k127 rc w x23 x24 x25 x26 = some r) : V X S w 92 [(0, rf S 88), (1, .int x1), (2, .int x23), (3, .int x24), (4, .int x25)] [.int x26] := by
  unfold K_X11_team_92 at hP
  refine V_istore (lv' := [(6, .int x26), (0, rf S 88), (1, .int x1), (2, .int x23), (3, .int x24), (4, .int x25)]) hX dX11_team_92 (by decide) rfl ?_
  refine V_iload hX dX11_team_94 5 rfl ?_
  refine V_iconst (v := 3) hX dX11_team_96 (by decide) ?_
  refine V_icmp_gt (tgt := 119) hX dX11_team_97 (by decide) (fun hc27 => ?_) (fun hc27 => ?_)
  · replace hP := ite_t hc27 hP
    refine V_sub (lv' := [(0, rf S 88), (1, .int x1), (2, .int x23), (3, .int x24)]) [1, 2, 3, 4] rfl ?_
    exact sK_X11_team_119 hX hR  hk127 hrc  hP
  · replace hP := ite_f hc27 hP
    refine V_iload hX dX11_team_100 0 rfl ?_
    refine V_if_eq (tgt := 119) hX dX11_team_102 (by decide) (fun hc33 => ?_) (fun hc33 => ?_)
    · replace hP := ite_t hc33 hP
      refine V_sub (lv' := [(0, rf S 88), (1, .int x1), (2, .int x23), (3, .int x24)]) [1, 2, 3, 4] rfl ?_
      exact sK_X11_team_119 hX hR  hk127 hrc  hP
    · replace hP := ite_f hc33 hP
      refine V_aload_n hX dX11_team_105 1 rfl ?_
      refine V_iload_n hX dX11_team_106 4 rfl ?_
      refine V_iload_n hX dX11_team_107 2 rfl ?_
      obtain ⟨x35, w34, hcw34, hP⟩ := bnd_e hP
      refine V_callVi (As := [.int x24, .int x1]) (rest := []) hX mk_X11_342 nk_X11_rungBy (fun l => c_X11_rungBy l S  hcw34) tb_88 rfl ⟨rfl, rfl, Nat.le_of_ble_eq_true rfl, Nat.le_of_ble_eq_true rfl⟩ rfl rfl (Nat.le_of_ble_eq_true rfl) dX11_team_108 ?_
      refine V_iload_n hX dX11_team_111 2 rfl ?_
      have k39 : V X S w34 120 [(6, .int x26), (0, rf S 88), (1, .int x1), (2, .int x23), (3, .int x24), (4, .int x25)] [.int (if x35 = x1 then x24 else x23)] := by
        refine V_topi (fun x37 ex37 => ?_)
        replace hP := lt_r ex37 hP
        refine V_istore_n (lv' := [(2, .int x37), (6, .int x26), (0, rf S 88), (1, .int x1), (3, .int x24), (4, .int x25)]) hX dX11_team_120 (by decide) rfl ?_
        obtain ⟨x38, ex38⟩ : ∃ y : Int32, y = x24 + 1 := ⟨_, rfl⟩
        replace hP := lt_r ex38 hP
        refine V_iinc (v := x38) (lv' := [(3, .int x38), (2, .int x37), (6, .int x26), (0, rf S 88), (1, .int x1), (4, .int x25)]) hX dX11_team_121 (j := 4) rfl (by decide) (by rw [ex38]; rfl) rfl ?_
        refine V_goto (tgt := 23) hX dX11_team_124 (by decide) ?_
        refine V_sub (lv' := [(0, rf S 88), (1, .int x1), (2, .int x37), (3, .int x38)]) [3, 4, 1, 0] rfl ?_
        exact hrc _ _ _  hP
      refine V_icmp_ne (tgt := 119) hX dX11_team_112 (by decide) (fun hc36 => ?_) (fun hc36 => ?_)
      · refine V_iload_n hX dX11_team_119 3 rfl ?_
        refine V_selF (c := x35 = x1) (a := x24) hc36 ?_
        exact k39
      · refine V_iload_n hX dX11_team_115 4 rfl ?_
        refine V_goto (tgt := 120) hX dX11_team_116 (by decide) ?_
        refine V_selT (c := x35 = x1) (b := x23) hc36 ?_
        exact k39
def K_X11_team_87 (F : Nat) (x1 : Int32) (k127 : Wd → Int32 → Option (Int32 × Wd)) (rc : Wd → Int32 → Int32 → Option (Int32 × Wd)) (w : Wd) (x20 : Int32) (x21 : Int32) (x22 : Int32) : Option (Int32 × Wd) := K_X11_team_92 F x1 k127 rc w x20 x21 x22 1
set_option maxRecDepth 100000 in
set_option maxHeartbeats 4000000 in
theorem sK_X11_team_87 {X : Cx} {S : Sx} {r : Int32 × Wd} {F : Nat} {x1 : Int32} {k127 : Wd → Int32 → Option (Int32 × Wd)} {rc : Wd → Int32 → Int32 → Option (Int32 × Wd)} {w : Wd} {x20 : Int32} {x21 : Int32} {x22 : Int32} (hX : Ok X S cX11_team RX11 7 rm_X11_team) (hR : HRt X S cX11_team .int r)  (hk127 : ∀ (w : Wd) (x8 : Int32) , k127 w x8 = some r → V X S w 127 [(0, rf S 88), (2, .int x8)] []) (hrc : ∀ (w : Wd) (x6 : Int32) (x7 : Int32) , rc w x6 x7 = some r → V X S w 23 [(0, rf S 88), (1, .int x1), (2, .int x6), (3, .int x7)] [])  (hP : K_X11_team_87 F x1 k127 rc w x20 x21 x22 = some r) : V X S w 87 [(0, rf S 88), (1, .int x1), (2, .int x20), (3, .int x21), (4, .int x22)] [] := by
  unfold K_X11_team_87 at hP
  refine V_iconst (v := 1) hX dX11_team_87 (by decide) ?_
  refine V_goto (tgt := 92) hX dX11_team_88 (by decide) ?_
  exact sK_X11_team_92 hX hR  hk127 hrc  hP
def K_X11_team_91 (F : Nat) (x1 : Int32) (k127 : Wd → Int32 → Option (Int32 × Wd)) (rc : Wd → Int32 → Int32 → Option (Int32 × Wd)) (w : Wd) (x41 : Int32) (x42 : Int32) (x43 : Int32) : Option (Int32 × Wd) := K_X11_team_92 F x1 k127 rc w x41 x42 x43 0
set_option maxRecDepth 100000 in
set_option maxHeartbeats 4000000 in
theorem sK_X11_team_91 {X : Cx} {S : Sx} {r : Int32 × Wd} {F : Nat} {x1 : Int32} {k127 : Wd → Int32 → Option (Int32 × Wd)} {rc : Wd → Int32 → Int32 → Option (Int32 × Wd)} {w : Wd} {x41 : Int32} {x42 : Int32} {x43 : Int32} (hX : Ok X S cX11_team RX11 7 rm_X11_team) (hR : HRt X S cX11_team .int r)  (hk127 : ∀ (w : Wd) (x8 : Int32) , k127 w x8 = some r → V X S w 127 [(0, rf S 88), (2, .int x8)] []) (hrc : ∀ (w : Wd) (x6 : Int32) (x7 : Int32) , rc w x6 x7 = some r → V X S w 23 [(0, rf S 88), (1, .int x1), (2, .int x6), (3, .int x7)] [])  (hP : K_X11_team_91 F x1 k127 rc w x41 x42 x43 = some r) : V X S w 91 [(0, rf S 88), (1, .int x1), (2, .int x41), (3, .int x42), (4, .int x43)] [] := by
  unfold K_X11_team_91 at hP
  refine V_iconst (v := 0) hX dX11_team_91 (by decide) ?_
  exact sK_X11_team_92 hX hR  hk127 hrc  hP
def K_X11_team_54 (F : Nat) (x1 : Int32) (k127 : Wd → Int32 → Option (Int32 × Wd)) (rc : Wd → Int32 → Int32 → Option (Int32 × Wd)) (w : Wd) (x15 : Int32) (x16 : Int32) (x17 : Int32) (x18 : Int32) : Option (Int32 × Wd) := (if x18 < 0 then K_X11_team_87 F x1 k127 rc w x15 x16 x17 else (if x18 = 0 then bnd (P_X11_sumOf F w x16 91) (fun x45 w44 => bnd (P_X11_sumOf F w44 x15 91) (fun x47 w46 => lt (if x47 ≤ x45 then 0 else 1 : Int32) (fun x49 => (if (3 : Int32) < x17 then K_X11_team_119 F x1 k127 rc w46 x15 x16 else (if x49 = 0 then K_X11_team_119 F x1 k127 rc w46 x15 x16 else bnd (P_X11_rungBy F w46 x16 x1) (fun x53 w52 => lt (if x53 = x1 then x16 else x15 : Int32) (fun x55 => lt (x16 + 1 : Int32) (fun x56 => rc w52 x55 x56)))))))) else K_X11_team_91 F x1 k127 rc w x15 x16 x17))
set_option maxRecDepth 100000 in
set_option maxHeartbeats 4000000 in
theorem sK_X11_team_54 {X : Cx} {S : Sx} {r : Int32 × Wd} {F : Nat} {x1 : Int32} {k127 : Wd → Int32 → Option (Int32 × Wd)} {rc : Wd → Int32 → Int32 → Option (Int32 × Wd)} {w : Wd} {x15 : Int32} {x16 : Int32} {x17 : Int32} {x18 : Int32} (hX : Ok X S cX11_team RX11 7 rm_X11_team) (hR : HRt X S cX11_team .int r)  (hk127 : ∀ (w : Wd) (x8 : Int32) , k127 w x8 = some r → V X S w 127 [(0, rf S 88), (2, .int x8)] []) (hrc : ∀ (w : Wd) (x6 : Int32) (x7 : Int32) , rc w x6 x7 = some r → V X S w 23 [(0, rf S 88), (1, .int x1), (2, .int x6), (3, .int x7)] [])  (hP : K_X11_team_54 F x1 k127 rc w x15 x16 x17 x18 = some r) : V X S w 54 [(0, rf S 88), (1, .int x1), (2, .int x15), (3, .int x16), (4, .int x17)] [.int x18] := by
  unfold K_X11_team_54 at hP
  refine V_istore (lv' := [(5, .int x18), (0, rf S 88), (1, .int x1), (2, .int x15), (3, .int x16), (4, .int x17)]) hX dX11_team_54 (by decide) rfl ?_
  refine V_iload hX dX11_team_56 0 rfl ?_
  refine V_if_lt (tgt := 87) hX dX11_team_58 (by decide) (fun hc19 => ?_) (fun hc19 => ?_)
  · replace hP := ite_t hc19 hP
    refine V_sub (lv' := [(0, rf S 88), (1, .int x1), (2, .int x15), (3, .int x16), (4, .int x17)]) [1, 2, 3, 4, 5] rfl ?_
    exact sK_X11_team_87 hX hR  hk127 hrc  hP
  · replace hP := ite_f hc19 hP
    refine V_iload hX dX11_team_61 0 rfl ?_
    refine V_if_ne (tgt := 91) hX dX11_team_63 (by decide) (fun hc40 => ?_) (fun hc40 => ?_)
    · replace hP := ite_f hc40 hP
      refine V_sub (lv' := [(0, rf S 88), (1, .int x1), (2, .int x15), (3, .int x16), (4, .int x17)]) [1, 2, 3, 4, 5] rfl ?_
      exact sK_X11_team_91 hX hR  hk127 hrc  hP
    · replace hP := ite_t hc40 hP
      refine V_aload_n hX dX11_team_66 1 rfl ?_
      refine V_iload_n hX dX11_team_67 4 rfl ?_
      refine V_aload_n hX dX11_team_68 1 rfl ?_
      refine V_getF (j := 91) hX fk_X11_17 tb_88 (fun _ _ _ => rfl) dX11_team_69 ?_
      obtain ⟨x45, w44, hcw44, hP⟩ := bnd_e hP
      refine V_callVi (As := [.int x16, rf S 91]) (rest := []) hX mk_X11_244 nk_X11_sumOf (fun l => c_X11_sumOf l S (by decide) hcw44) tb_88 rfl ⟨rfl, rfl, Nat.le_of_ble_eq_true rfl, Nat.le_of_ble_eq_true rfl⟩ rfl rfl (Nat.le_of_ble_eq_true rfl) dX11_team_72 ?_
      refine V_aload_n hX dX11_team_75 1 rfl ?_
      refine V_iload_n hX dX11_team_76 3 rfl ?_
      refine V_aload_n hX dX11_team_77 1 rfl ?_
      refine V_getF (j := 91) hX fk_X11_17 tb_88 (fun _ _ _ => rfl) dX11_team_78 ?_
      obtain ⟨x47, w46, hcw46, hP⟩ := bnd_e hP
      refine V_callVi (As := [.int x15, rf S 91]) (rest := [.int x45]) hX mk_X11_244 nk_X11_sumOf (fun l => c_X11_sumOf l S (by decide) hcw46) tb_88 rfl ⟨rfl, rfl, Nat.le_of_ble_eq_true rfl, Nat.le_of_ble_eq_true rfl⟩ rfl rfl (Nat.le_of_ble_eq_true rfl) dX11_team_81 ?_
      have k58 : V X S w46 92 [(5, .int x18), (0, rf S 88), (1, .int x1), (2, .int x15), (3, .int x16), (4, .int x17)] [.int (if x47 ≤ x45 then 0 else 1)] := by
        refine V_topi (fun x49 ex49 => ?_)
        replace hP := lt_r ex49 hP
        refine V_istore (lv' := [(6, .int x49), (5, .int x18), (0, rf S 88), (1, .int x1), (2, .int x15), (3, .int x16), (4, .int x17)]) hX dX11_team_92 (by decide) rfl ?_
        refine V_iload hX dX11_team_94 6 rfl ?_
        refine V_iconst (v := 3) hX dX11_team_96 (by decide) ?_
        refine V_icmp_gt (tgt := 119) hX dX11_team_97 (by decide) (fun hc50 => ?_) (fun hc50 => ?_)
        · replace hP := ite_t hc50 hP
          refine V_sub (lv' := [(0, rf S 88), (1, .int x1), (2, .int x15), (3, .int x16)]) [2, 3, 4, 5] rfl ?_
          exact sK_X11_team_119 hX hR  hk127 hrc  hP
        · replace hP := ite_f hc50 hP
          refine V_iload hX dX11_team_100 0 rfl ?_
          refine V_if_eq (tgt := 119) hX dX11_team_102 (by decide) (fun hc51 => ?_) (fun hc51 => ?_)
          · replace hP := ite_t hc51 hP
            refine V_sub (lv' := [(0, rf S 88), (1, .int x1), (2, .int x15), (3, .int x16)]) [2, 3, 4, 5] rfl ?_
            exact sK_X11_team_119 hX hR  hk127 hrc  hP
          · replace hP := ite_f hc51 hP
            refine V_aload_n hX dX11_team_105 2 rfl ?_
            refine V_iload_n hX dX11_team_106 5 rfl ?_
            refine V_iload_n hX dX11_team_107 3 rfl ?_
            obtain ⟨x53, w52, hcw52, hP⟩ := bnd_e hP
            refine V_callVi (As := [.int x16, .int x1]) (rest := []) hX mk_X11_342 nk_X11_rungBy (fun l => c_X11_rungBy l S  hcw52) tb_88 rfl ⟨rfl, rfl, Nat.le_of_ble_eq_true rfl, Nat.le_of_ble_eq_true rfl⟩ rfl rfl (Nat.le_of_ble_eq_true rfl) dX11_team_108 ?_
            refine V_iload_n hX dX11_team_111 3 rfl ?_
            have k57 : V X S w52 120 [(6, .int x49), (5, .int x18), (0, rf S 88), (1, .int x1), (2, .int x15), (3, .int x16), (4, .int x17)] [.int (if x53 = x1 then x16 else x15)] := by
              refine V_topi (fun x55 ex55 => ?_)
              replace hP := lt_r ex55 hP
              refine V_istore_n (lv' := [(2, .int x55), (6, .int x49), (5, .int x18), (0, rf S 88), (1, .int x1), (3, .int x16), (4, .int x17)]) hX dX11_team_120 (by decide) rfl ?_
              obtain ⟨x56, ex56⟩ : ∃ y : Int32, y = x16 + 1 := ⟨_, rfl⟩
              replace hP := lt_r ex56 hP
              refine V_iinc (v := x56) (lv' := [(3, .int x56), (2, .int x55), (6, .int x49), (5, .int x18), (0, rf S 88), (1, .int x1), (4, .int x17)]) hX dX11_team_121 (j := 5) rfl (by decide) (by rw [ex56]; rfl) rfl ?_
              refine V_goto (tgt := 23) hX dX11_team_124 (by decide) ?_
              refine V_sub (lv' := [(0, rf S 88), (1, .int x1), (2, .int x55), (3, .int x56)]) [4, 5, 1, 0] rfl ?_
              exact hrc _ _ _  hP
            refine V_icmp_ne (tgt := 119) hX dX11_team_112 (by decide) (fun hc54 => ?_) (fun hc54 => ?_)
            · refine V_iload_n hX dX11_team_119 4 rfl ?_
              refine V_selF (c := x53 = x1) (a := x16) hc54 ?_
              exact k57
            · refine V_iload_n hX dX11_team_115 5 rfl ?_
              refine V_goto (tgt := 120) hX dX11_team_116 (by decide) ?_
              refine V_selT (c := x53 = x1) (b := x15) hc54 ?_
              exact k57
      refine V_icmp_ge (tgt := 91) hX dX11_team_84 (by decide) (fun hc48 => ?_) (fun hc48 => ?_)
      · refine V_iconst (v := 0) hX dX11_team_91 (by decide) ?_
        refine V_selT (c := x47 ≤ x45) (b := 1) hc48 ?_
        exact k58
      · refine V_iconst (v := 1) hX dX11_team_87 (by decide) ?_
        refine V_goto (tgt := 92) hX dX11_team_88 (by decide) ?_
        refine V_selF (c := x47 ≤ x45) (a := 0) hc48 ?_
        exact k58
def L_X11_team_23 (F : Nat) (x1 : Int32) (k127 : Wd → Int32 → Option (Int32 × Wd)) : Nat → Wd → Int32 → Int32 → Option (Int32 × Wd)
  | 0, _, _, _ => none
  | n + 1, w, x6, x7 => (if (ishlI 1 (gI w 88 3)) ≤ x7 then k127 w x6 else bnd (P_J6_bitCount_0f7a4 F w x7) (fun x11 w10 => (if (0 : Int32) ≤ x6 then bnd (P_J6_bitCount_0f7a4 F w10 x6) (fun x14 w13 => K_X11_team_54 F x1 k127 ((L_X11_team_23 F x1 k127 n)) w13 x6 x7 x11 (x11 - x14)) else K_X11_team_54 F x1 k127 ((L_X11_team_23 F x1 k127 n)) w10 x6 x7 x11 ((-1)))))
set_option maxRecDepth 100000 in
set_option maxHeartbeats 4000000 in
theorem sL_X11_team_23 {X : Cx} {S : Sx} {r : Int32 × Wd} {F : Nat} {x1 : Int32} {k127 : Wd → Int32 → Option (Int32 × Wd)} (hX : Ok X S cX11_team RX11 7 rm_X11_team) (hR : HRt X S cX11_team .int r)  (hk127 : ∀ (w : Wd) (x8 : Int32) , k127 w x8 = some r → V X S w 127 [(0, rf S 88), (2, .int x8)] []) : ∀ (n : Nat) (w : Wd) (x6 : Int32) (x7 : Int32) , L_X11_team_23 F x1 k127 n w x6 x7 = some r → V X S w 23 [(0, rf S 88), (1, .int x1), (2, .int x6), (3, .int x7)] [] := by
  intro n
  induction n with
  | zero =>
    intro w x6 x7  hP
    exact nn hP
  | succ n ih =>
    intro w x6 x7  hP
    rw [L_X11_team_23] at hP
    refine V_iload_n hX dX11_team_23 3 rfl ?_
    refine V_iconst (v := 1) hX dX11_team_24 (by decide) ?_
    refine V_aload_n hX dX11_team_25 0 rfl ?_
    refine V_getI hX fk_X11_113 tb_88 (fun _ _ _ => rfl) dX11_team_26 ?_
    refine V_ishl hX dX11_team_29 ?_
    refine V_icmp_ge (tgt := 127) hX dX11_team_30 (by decide) (fun hc9 => ?_) (fun hc9 => ?_)
    · replace hP := ite_t hc9 hP
      refine V_sub (lv' := [(0, rf S 88), (2, .int x6)]) [0, 2] rfl ?_
      exact hk127 _ _  hP
    · replace hP := ite_f hc9 hP
      refine V_iload_n hX dX11_team_33 3 rfl ?_
      obtain ⟨x11, w10, hcw10, hP⟩ := bnd_e hP
      refine V_callSi (As := [.int x7]) (rest := []) hX mk_X11_248 nk_J6_bitCount_0f7a4 (fun l => c_J6_bitCount_0f7a4 l S  hcw10) ⟨rfl, rfl, Nat.le_of_ble_eq_true rfl, Nat.le_of_ble_eq_true rfl⟩ rfl rfl (Nat.le_of_ble_eq_true rfl) dX11_team_34 ?_
      refine V_istore (lv' := [(4, .int x11), (0, rf S 88), (1, .int x1), (2, .int x6), (3, .int x7)]) hX dX11_team_37 (by decide) rfl ?_
      refine V_iload_n hX dX11_team_39 3 rfl ?_
      refine V_if_ge (tgt := 47) hX dX11_team_40 (by decide) (fun hc12 => ?_) (fun hc12 => ?_)
      · replace hP := ite_t hc12 hP
        refine V_iload hX dX11_team_47 0 rfl ?_
        refine V_iload_n hX dX11_team_49 3 rfl ?_
        obtain ⟨x14, w13, hcw13, hP⟩ := bnd_e hP
        refine V_callSi (As := [.int x6]) (rest := [.int x11]) hX mk_X11_248 nk_J6_bitCount_0f7a4 (fun l => c_J6_bitCount_0f7a4 l S  hcw13) ⟨rfl, rfl, Nat.le_of_ble_eq_true rfl, Nat.le_of_ble_eq_true rfl⟩ rfl rfl (Nat.le_of_ble_eq_true rfl) dX11_team_50 ?_
        refine V_isub hX dX11_team_53 ?_
        refine V_sub (lv' := [(0, rf S 88), (1, .int x1), (2, .int x6), (3, .int x7), (4, .int x11)]) [1, 2, 3, 4, 0] rfl ?_
        exact sK_X11_team_54 hX hR  hk127 ih  hP
      · replace hP := ite_f hc12 hP
        refine V_iconst (v := (-1)) hX dX11_team_43 (by decide) ?_
        refine V_goto (tgt := 54) hX dX11_team_44 (by decide) ?_
        refine V_sub (lv' := [(0, rf S 88), (1, .int x1), (2, .int x6), (3, .int x7), (4, .int x11)]) [1, 2, 3, 4, 0] rfl ?_
        exact sK_X11_team_54 hX hR  hk127 ih  hP
def P_X11_team (F : Nat) (w : Wd) (x1 : Int32) : Option (Int32 × Wd) := lt (sI w 88 0 0) (fun w2 => bnd (P_X11_in F w2 (Int32.toInt64 x1) 1 120) (fun x4 w3 => (if x4 = 0 then some ((-1), w3) else L_X11_team_23 F x1 (fun w x8 => (if (0 : Int32) ≤ x8 then lt (sI w 88 1 0) (fun w60 => bnv (P_X11_enters F w60 (Int32.toInt64 x8)) (fun w61 => bnd (P_X11_sumOf F w61 x8 91) (fun x63 w62 => bnv (P_X11_enters F w62 (Int32.toInt64 x63)) (fun w64 => bnd (P_J6_bitCount_0f7a4 F w64 x8) (fun x66 w65 => some (x66, w65)))))) else some ((-2), w))) F w3 ((-1)) 1)))
set_option maxRecDepth 100000 in
set_option maxHeartbeats 4000000 in
theorem s_X11_team {X : Cx} {S : Sx} {r : Int32 × Wd} {F : Nat} {w : Wd} {x1 : Int32}  (hX : Ok X S cX11_team RX11 7 rm_X11_team) (hR : HRt X S cX11_team .int r) (hP : P_X11_team F w x1 = some r) : V X S w 0 [(0, rf S 88), (1, .int x1)] [] := by
  unfold P_X11_team at hP
  refine V_aload_n hX dX11_team_0 0 rfl ?_
  refine V_iconst (v := 0) hX dX11_team_1 (by decide) ?_
  refine V_putI hX fw_X11_102 tb_88 (fun _ _ _ => ⟨Nat.le_of_ble_eq_true rfl, rfl⟩) dX11_team_2 (fun w2 ew2 => ?_)
  replace hP := lt_r ew2 hP
  refine V_iload_n hX dX11_team_5 1 rfl ?_
  refine V_i2l hX dX11_team_6 ?_
  refine V_lconst (v := 1) hX dX11_team_7 rfl ?_
  refine V_ldc2 (v := 120) hX dX11_team_8 cn_X11_311 ?_
  obtain ⟨x4, w3, hcw3, hP⟩ := bnd_e hP
  refine V_callSi (As := [.long (Int32.toInt64 x1), .long 1, .long 120]) (rest := []) hX mk_X11_116 nk_X11_in (fun l => c_X11_in l S  hcw3) ⟨rfl, rfl, Nat.le_of_ble_eq_true rfl, Nat.le_of_ble_eq_true rfl⟩ rfl rfl (Nat.le_of_ble_eq_true rfl) dX11_team_11 ?_
  refine V_if_ne (tgt := 19) hX dX11_team_14 (by decide) (fun hc5 => ?_) (fun hc5 => ?_)
  · replace hP := ite_f hc5 hP
    refine V_iconst (v := (-1)) hX dX11_team_19 (by decide) ?_
    refine V_istore_n (lv' := [(2, .int ((-1))), (0, rf S 88), (1, .int x1)]) hX dX11_team_20 (by decide) rfl ?_
    refine V_iconst (v := 1) hX dX11_team_21 (by decide) ?_
    refine V_istore_n (lv' := [(3, .int 1), (2, .int ((-1))), (0, rf S 88), (1, .int x1)]) hX dX11_team_22 (by decide) rfl ?_
    refine V_sub (lv' := [(0, rf S 88), (1, .int x1), (2, .int ((-1))), (3, .int 1)]) [2, 3, 1, 0] rfl ?_
    have k67 : ∀ (w : Wd) (x8 : Int32) , ((if (0 : Int32) ≤ x8 then lt (sI w 88 1 0) (fun w60 => bnv (P_X11_enters F w60 (Int32.toInt64 x8)) (fun w61 => bnd (P_X11_sumOf F w61 x8 91) (fun x63 w62 => bnv (P_X11_enters F w62 (Int32.toInt64 x63)) (fun w64 => bnd (P_J6_bitCount_0f7a4 F w64 x8) (fun x66 w65 => some (x66, w65)))))) else some ((-2), w))) = some r → V X S w 127 [(0, rf S 88), (2, .int x8)] [] := by
      intro w x8  hP
      refine V_iload_n hX dX11_team_127 1 rfl ?_
      refine V_if_ge (tgt := 134) hX dX11_team_128 (by decide) (fun hc59 => ?_) (fun hc59 => ?_)
      · replace hP := ite_t hc59 hP
        refine V_aload_n hX dX11_team_134 0 rfl ?_
        refine V_iconst (v := 0) hX dX11_team_135 (by decide) ?_
        refine V_putI hX fw_X11_110 tb_88 (fun _ _ _ => ⟨Nat.le_of_ble_eq_true rfl, rfl⟩) dX11_team_136 (fun w60 ew60 => ?_)
        replace hP := lt_r ew60 hP
        refine V_aload_n hX dX11_team_139 0 rfl ?_
        refine V_iload_n hX dX11_team_140 1 rfl ?_
        refine V_i2l hX dX11_team_141 ?_
        obtain ⟨w61, hcw61, hP⟩ := bnv_e hP
        refine V_callVv (As := [.long (Int32.toInt64 x8)]) (rest := []) hX mk_X11_316 nk_X11_enters (fun l => c_X11_enters l S  hcw61) tb_88 rfl ⟨rfl, rfl, Nat.le_of_ble_eq_true rfl, Nat.le_of_ble_eq_true rfl⟩ rfl rfl (Nat.le_of_ble_eq_true rfl) dX11_team_142 ?_
        refine V_aload_n hX dX11_team_145 0 rfl ?_
        refine V_aload_n hX dX11_team_146 0 rfl ?_
        refine V_iload_n hX dX11_team_147 1 rfl ?_
        refine V_aload_n hX dX11_team_148 0 rfl ?_
        refine V_getF (j := 91) hX fk_X11_17 tb_88 (fun _ _ _ => rfl) dX11_team_149 ?_
        obtain ⟨x63, w62, hcw62, hP⟩ := bnd_e hP
        refine V_callVi (As := [.int x8, rf S 91]) (rest := [rf S 88]) hX mk_X11_244 nk_X11_sumOf (fun l => c_X11_sumOf l S (by decide) hcw62) tb_88 rfl ⟨rfl, rfl, Nat.le_of_ble_eq_true rfl, Nat.le_of_ble_eq_true rfl⟩ rfl rfl (Nat.le_of_ble_eq_true rfl) dX11_team_152 ?_
        refine V_i2l hX dX11_team_155 ?_
        obtain ⟨w64, hcw64, hP⟩ := bnv_e hP
        refine V_callVv (As := [.long (Int32.toInt64 x63)]) (rest := []) hX mk_X11_316 nk_X11_enters (fun l => c_X11_enters l S  hcw64) tb_88 rfl ⟨rfl, rfl, Nat.le_of_ble_eq_true rfl, Nat.le_of_ble_eq_true rfl⟩ rfl rfl (Nat.le_of_ble_eq_true rfl) dX11_team_156 ?_
        refine V_iload_n hX dX11_team_159 1 rfl ?_
        obtain ⟨x66, w65, hcw65, hP⟩ := bnd_e hP
        refine V_callSi (As := [.int x8]) (rest := []) hX mk_X11_248 nk_J6_bitCount_0f7a4 (fun l => c_J6_bitCount_0f7a4 l S  hcw65) ⟨rfl, rfl, Nat.le_of_ble_eq_true rfl, Nat.le_of_ble_eq_true rfl⟩ rfl rfl (Nat.le_of_ble_eq_true rfl) dX11_team_160 ?_
        exact hR _ _ _ _ (Option.some.inj hP) rfl dX11_team_163
      · replace hP := ite_f hc59 hP
        refine V_bipush (v := (-2)) hX dX11_team_131 (by decide) ?_
        exact hR _ _ _ _ (Option.some.inj hP) rfl dX11_team_133
    exact sL_X11_team_23 hX hR  k67 F _ _ _  hP
  · replace hP := ite_t hc5 hP
    refine V_iconst (v := (-1)) hX dX11_team_17 (by decide) ?_
    exact hR _ _ _ _ (Option.some.inj hP) rfl dX11_team_18
theorem c_X11_team (l : Launch) (S : Sx) {r : Int32 × Wd} {F : Nat} {w : Wd} {x1 : Int32}  (h : P_X11_team F w x1 = some r) : Met l yX11_team (wsg yX11_team cX11_team 7 (some .int)) rm_X11_team (PC S w [rf S 88, .int x1]) (QCi S r) 0 0 (Aw S) :=
  met_i (by decide) rfl (Nat.le_of_ble_eq_true rfl) ⟨rfl, rfl⟩ (fun X hX hR => s_X11_team  hX hR h)

-- MustNotStopModel.strongest(I)I
abbrev rm_X11_strongest : Room := { frames := 9, cells := 0, slots := 0, locals := 241 }
theorem nk_X11_strongest : MNk yX11_strongest RX11 1 := ⟨rfl, by decide, by decide, by decide +kernel⟩
def K_X11_strongest_61 (F : Nat) (x1 : Int32) (k89 : Wd → Int32 → Int32 → Option (Int32 × Wd)) (rc : Wd → Int32 → Int32 → Int32 → Option (Int32 × Wd)) (w : Wd) (x15 : Int32) (x16 : Int32) (x17 : Int32) (x18 : Int32) : Option (Int32 × Wd) := lt (if x18 ≤ x16 then x15 else x17 : Int32) (fun x20 => lt (maxI x16 x18 : Int32) (fun x21 => lt (x17 + 1 : Int32) (fun x22 => rc w x20 x21 x22)))
set_option maxRecDepth 100000 in
set_option maxHeartbeats 4000000 in
theorem sK_X11_strongest_61 {X : Cx} {S : Sx} {r : Int32 × Wd} {F : Nat} {x1 : Int32} {k89 : Wd → Int32 → Int32 → Option (Int32 × Wd)} {rc : Wd → Int32 → Int32 → Int32 → Option (Int32 × Wd)} {w : Wd} {x15 : Int32} {x16 : Int32} {x17 : Int32} {x18 : Int32} (hX : Ok X S cX11_strongest RX11 6 rm_X11_strongest) (hR : HRt X S cX11_strongest .int r)  (hk89 : ∀ (w : Wd) (x9 : Int32) (x10 : Int32) , k89 w x9 x10 = some r → V X S w 89 [(0, rf S 88), (2, .int x9), (3, .int x10)] []) (hrc : ∀ (w : Wd) (x6 : Int32) (x7 : Int32) (x8 : Int32) , rc w x6 x7 x8 = some r → V X S w 27 [(0, rf S 88), (1, .int x1), (2, .int x6), (3, .int x7), (4, .int x8)] [])  (hP : K_X11_strongest_61 F x1 k89 rc w x15 x16 x17 x18 = some r) : V X S w 61 [(0, rf S 88), (1, .int x1), (2, .int x15), (3, .int x16), (4, .int x17)] [.int x18] := by
  unfold K_X11_strongest_61 at hP
  refine V_istore (lv' := [(5, .int x18), (0, rf S 88), (1, .int x1), (2, .int x15), (3, .int x16), (4, .int x17)]) hX dX11_strongest_61 (by decide) rfl ?_
  refine V_iload hX dX11_strongest_63 0 rfl ?_
  refine V_iload_n hX dX11_strongest_65 4 rfl ?_
  have k23 : V X S w 75 [(5, .int x18), (0, rf S 88), (1, .int x1), (2, .int x15), (3, .int x16), (4, .int x17)] [.int (if x18 ≤ x16 then x15 else x17)] := by
    refine V_topi (fun x20 ex20 => ?_)
    replace hP := lt_r ex20 hP
    refine V_istore_n (lv' := [(2, .int x20), (5, .int x18), (0, rf S 88), (1, .int x1), (3, .int x16), (4, .int x17)]) hX dX11_strongest_75 (by decide) rfl ?_
    refine V_iload_n hX dX11_strongest_76 4 rfl ?_
    refine V_iload hX dX11_strongest_77 1 rfl ?_
    refine V_max hX mk_X11_280 ⟨Nat.le_of_ble_eq_true rfl, Nat.le_of_ble_eq_true rfl⟩ dX11_strongest_79 ?_
    refine V_topi (fun x21 ex21 => ?_)
    replace hP := lt_r ex21 hP
    refine V_istore_n (lv' := [(3, .int x21), (2, .int x20), (5, .int x18), (0, rf S 88), (1, .int x1), (4, .int x17)]) hX dX11_strongest_82 (by decide) rfl ?_
    obtain ⟨x22, ex22⟩ : ∃ y : Int32, y = x17 + 1 := ⟨_, rfl⟩
    replace hP := lt_r ex22 hP
    refine V_iinc (v := x22) (lv' := [(4, .int x22), (3, .int x21), (2, .int x20), (5, .int x18), (0, rf S 88), (1, .int x1)]) hX dX11_strongest_83 (j := 5) rfl (by decide) (by rw [ex22]; rfl) rfl ?_
    refine V_goto (tgt := 27) hX dX11_strongest_86 (by decide) ?_
    refine V_sub (lv' := [(0, rf S 88), (1, .int x1), (2, .int x20), (3, .int x21), (4, .int x22)]) [4, 5, 2, 1, 0] rfl ?_
    exact hrc _ _ _ _  hP
  refine V_icmp_le (tgt := 74) hX dX11_strongest_66 (by decide) (fun hc19 => ?_) (fun hc19 => ?_)
  · refine V_iload_n hX dX11_strongest_74 3 rfl ?_
    refine V_selT (c := x18 ≤ x16) (b := x17) hc19 ?_
    exact k23
  · refine V_iload hX dX11_strongest_69 5 rfl ?_
    refine V_goto (tgt := 75) hX dX11_strongest_71 (by decide) ?_
    refine V_selF (c := x18 ≤ x16) (a := x15) hc19 ?_
    exact k23
def L_X11_strongest_27 (F : Nat) (x1 : Int32) (k89 : Wd → Int32 → Int32 → Option (Int32 × Wd)) : Nat → Wd → Int32 → Int32 → Int32 → Option (Int32 × Wd)
  | 0, _, _, _, _ => none
  | n + 1, w, x6, x7, x8 => (if (ishlI 1 (gI w 88 3)) ≤ x8 then k89 w x6 x7 else bnd (P_J6_bitCount_0f7a4 F w x8) (fun x13 w12 => (if x13 = x1 then bnd (P_X11_rungBy F w12 x8 999) (fun x25 w24 => K_X11_strongest_61 F x1 k89 ((L_X11_strongest_27 F x1 k89 n)) w24 x6 x7 x8 x25) else K_X11_strongest_61 F x1 k89 ((L_X11_strongest_27 F x1 k89 n)) w12 x6 x7 x8 ((-2)))))
set_option maxRecDepth 100000 in
set_option maxHeartbeats 4000000 in
theorem sL_X11_strongest_27 {X : Cx} {S : Sx} {r : Int32 × Wd} {F : Nat} {x1 : Int32} {k89 : Wd → Int32 → Int32 → Option (Int32 × Wd)} (hX : Ok X S cX11_strongest RX11 6 rm_X11_strongest) (hR : HRt X S cX11_strongest .int r)  (hk89 : ∀ (w : Wd) (x9 : Int32) (x10 : Int32) , k89 w x9 x10 = some r → V X S w 89 [(0, rf S 88), (2, .int x9), (3, .int x10)] []) : ∀ (n : Nat) (w : Wd) (x6 : Int32) (x7 : Int32) (x8 : Int32) , L_X11_strongest_27 F x1 k89 n w x6 x7 x8 = some r → V X S w 27 [(0, rf S 88), (1, .int x1), (2, .int x6), (3, .int x7), (4, .int x8)] [] := by
  intro n
  induction n with
  | zero =>
    intro w x6 x7 x8  hP
    exact nn hP
  | succ n ih =>
    intro w x6 x7 x8  hP
    rw [L_X11_strongest_27] at hP
    refine V_iload hX dX11_strongest_27 4 rfl ?_
    refine V_iconst (v := 1) hX dX11_strongest_29 (by decide) ?_
    refine V_aload_n hX dX11_strongest_30 0 rfl ?_
    refine V_getI hX fk_X11_113 tb_88 (fun _ _ _ => rfl) dX11_strongest_31 ?_
    refine V_ishl hX dX11_strongest_34 ?_
    refine V_icmp_ge (tgt := 89) hX dX11_strongest_35 (by decide) (fun hc11 => ?_) (fun hc11 => ?_)
    · replace hP := ite_t hc11 hP
      refine V_sub (lv' := [(0, rf S 88), (2, .int x6), (3, .int x7)]) [0, 2, 3] rfl ?_
      exact hk89 _ _ _  hP
    · replace hP := ite_f hc11 hP
      refine V_iload hX dX11_strongest_38 4 rfl ?_
      obtain ⟨x13, w12, hcw12, hP⟩ := bnd_e hP
      refine V_callSi (As := [.int x8]) (rest := []) hX mk_X11_248 nk_J6_bitCount_0f7a4 (fun l => c_J6_bitCount_0f7a4 l S  hcw12) ⟨rfl, rfl, Nat.le_of_ble_eq_true rfl, Nat.le_of_ble_eq_true rfl⟩ rfl rfl (Nat.le_of_ble_eq_true rfl) dX11_strongest_40 ?_
      refine V_iload_n hX dX11_strongest_43 1 rfl ?_
      refine V_icmp_ne (tgt := 59) hX dX11_strongest_44 (by decide) (fun hc14 => ?_) (fun hc14 => ?_)
      · replace hP := ite_f hc14 hP
        refine V_bipush (v := (-2)) hX dX11_strongest_59 (by decide) ?_
        exact sK_X11_strongest_61 hX hR  hk89 ih  hP
      · replace hP := ite_t hc14 hP
        refine V_aload_n hX dX11_strongest_47 0 rfl ?_
        refine V_iload hX dX11_strongest_48 4 rfl ?_
        refine V_sipush (v := 999) hX dX11_strongest_50 (by decide) ?_
        obtain ⟨x25, w24, hcw24, hP⟩ := bnd_e hP
        refine V_callVi (As := [.int x8, .int 999]) (rest := []) hX mk_X11_342 nk_X11_rungBy (fun l => c_X11_rungBy l S  hcw24) tb_88 rfl ⟨rfl, rfl, Nat.le_of_ble_eq_true rfl, Nat.le_of_ble_eq_true rfl⟩ rfl rfl (Nat.le_of_ble_eq_true rfl) dX11_strongest_53 ?_
        refine V_goto (tgt := 61) hX dX11_strongest_56 (by decide) ?_
        exact sK_X11_strongest_61 hX hR  hk89 ih  hP
def P_X11_strongest (F : Nat) (w : Wd) (x1 : Int32) : Option (Int32 × Wd) := lt (sI w 88 0 0) (fun w2 => bnd (P_X11_in F w2 (Int32.toInt64 x1) 1 3) (fun x4 w3 => (if x4 = 0 then some ((-1), w3) else L_X11_strongest_27 F x1 (fun w x9 x10 => (if (0 : Int32) ≤ x9 then lt (sI w 88 1 0) (fun w27 => bnv (P_X11_enters F w27 (Int32.toInt64 x9)) (fun w28 => some (x10, w28))) else some ((-2), w))) F w3 ((-1)) ((-2)) 1)))
set_option maxRecDepth 100000 in
set_option maxHeartbeats 4000000 in
theorem s_X11_strongest {X : Cx} {S : Sx} {r : Int32 × Wd} {F : Nat} {w : Wd} {x1 : Int32}  (hX : Ok X S cX11_strongest RX11 6 rm_X11_strongest) (hR : HRt X S cX11_strongest .int r) (hP : P_X11_strongest F w x1 = some r) : V X S w 0 [(0, rf S 88), (1, .int x1)] [] := by
  unfold P_X11_strongest at hP
  refine V_aload_n hX dX11_strongest_0 0 rfl ?_
  refine V_iconst (v := 0) hX dX11_strongest_1 (by decide) ?_
  refine V_putI hX fw_X11_102 tb_88 (fun _ _ _ => ⟨Nat.le_of_ble_eq_true rfl, rfl⟩) dX11_strongest_2 (fun w2 ew2 => ?_)
  replace hP := lt_r ew2 hP
  refine V_iload_n hX dX11_strongest_5 1 rfl ?_
  refine V_i2l hX dX11_strongest_6 ?_
  refine V_lconst (v := 1) hX dX11_strongest_7 rfl ?_
  refine V_ldc2 (v := 3) hX dX11_strongest_8 cn_X11_278 ?_
  obtain ⟨x4, w3, hcw3, hP⟩ := bnd_e hP
  refine V_callSi (As := [.long (Int32.toInt64 x1), .long 1, .long 3]) (rest := []) hX mk_X11_116 nk_X11_in (fun l => c_X11_in l S  hcw3) ⟨rfl, rfl, Nat.le_of_ble_eq_true rfl, Nat.le_of_ble_eq_true rfl⟩ rfl rfl (Nat.le_of_ble_eq_true rfl) dX11_strongest_11 ?_
  refine V_if_ne (tgt := 19) hX dX11_strongest_14 (by decide) (fun hc5 => ?_) (fun hc5 => ?_)
  · replace hP := ite_f hc5 hP
    refine V_iconst (v := (-1)) hX dX11_strongest_19 (by decide) ?_
    refine V_istore_n (lv' := [(2, .int ((-1))), (0, rf S 88), (1, .int x1)]) hX dX11_strongest_20 (by decide) rfl ?_
    refine V_bipush (v := (-2)) hX dX11_strongest_21 (by decide) ?_
    refine V_istore_n (lv' := [(3, .int ((-2))), (2, .int ((-1))), (0, rf S 88), (1, .int x1)]) hX dX11_strongest_23 (by decide) rfl ?_
    refine V_iconst (v := 1) hX dX11_strongest_24 (by decide) ?_
    refine V_istore (lv' := [(4, .int 1), (3, .int ((-2))), (2, .int ((-1))), (0, rf S 88), (1, .int x1)]) hX dX11_strongest_25 (by decide) rfl ?_
    refine V_sub (lv' := [(0, rf S 88), (1, .int x1), (2, .int ((-1))), (3, .int ((-2))), (4, .int 1)]) [3, 4, 2, 1, 0] rfl ?_
    have k29 : ∀ (w : Wd) (x9 : Int32) (x10 : Int32) , ((if (0 : Int32) ≤ x9 then lt (sI w 88 1 0) (fun w27 => bnv (P_X11_enters F w27 (Int32.toInt64 x9)) (fun w28 => some (x10, w28))) else some ((-2), w))) = some r → V X S w 89 [(0, rf S 88), (2, .int x9), (3, .int x10)] [] := by
      intro w x9 x10  hP
      refine V_iload_n hX dX11_strongest_89 1 rfl ?_
      refine V_if_ge (tgt := 96) hX dX11_strongest_90 (by decide) (fun hc26 => ?_) (fun hc26 => ?_)
      · replace hP := ite_t hc26 hP
        refine V_aload_n hX dX11_strongest_96 0 rfl ?_
        refine V_iconst (v := 0) hX dX11_strongest_97 (by decide) ?_
        refine V_putI hX fw_X11_110 tb_88 (fun _ _ _ => ⟨Nat.le_of_ble_eq_true rfl, rfl⟩) dX11_strongest_98 (fun w27 ew27 => ?_)
        replace hP := lt_r ew27 hP
        refine V_aload_n hX dX11_strongest_101 0 rfl ?_
        refine V_iload_n hX dX11_strongest_102 1 rfl ?_
        refine V_i2l hX dX11_strongest_103 ?_
        obtain ⟨w28, hcw28, hP⟩ := bnv_e hP
        refine V_callVv (As := [.long (Int32.toInt64 x9)]) (rest := []) hX mk_X11_316 nk_X11_enters (fun l => c_X11_enters l S  hcw28) tb_88 rfl ⟨rfl, rfl, Nat.le_of_ble_eq_true rfl, Nat.le_of_ble_eq_true rfl⟩ rfl rfl (Nat.le_of_ble_eq_true rfl) dX11_strongest_104 ?_
        refine V_iload_n hX dX11_strongest_107 2 rfl ?_
        exact hR _ _ _ _ (Option.some.inj hP) rfl dX11_strongest_108
      · replace hP := ite_f hc26 hP
        refine V_bipush (v := (-2)) hX dX11_strongest_93 (by decide) ?_
        exact hR _ _ _ _ (Option.some.inj hP) rfl dX11_strongest_95
    exact sL_X11_strongest_27 hX hR  k29 F _ _ _ _  hP
  · replace hP := ite_t hc5 hP
    refine V_iconst (v := (-1)) hX dX11_strongest_17 (by decide) ?_
    exact hR _ _ _ _ (Option.some.inj hP) rfl dX11_strongest_18
theorem c_X11_strongest (l : Launch) (S : Sx) {r : Int32 × Wd} {F : Nat} {w : Wd} {x1 : Int32}  (h : P_X11_strongest F w x1 = some r) : Met l yX11_strongest (wsg yX11_strongest cX11_strongest 6 (some .int)) rm_X11_strongest (PC S w [rf S 88, .int x1]) (QCi S r) 0 0 (Aw S) :=
  met_i (by decide) rfl (Nat.le_of_ble_eq_true rfl) ⟨rfl, rfl⟩ (fun X hX hR => s_X11_strongest  hX hR h)

-- MustNotStopModel.silence(I)I
abbrev rm_X11_silence : Room := { frames := 7, cells := 0, slots := 0, locals := 197 }
theorem nk_X11_silence : MNk yX11_silence RX11 1 := ⟨rfl, by decide, by decide, by decide +kernel⟩
def L_X11_silence_36 (F : Nat) (x1 : Int32) (k87 : Wd → Int32 → Int32 → Option (Int32 × Wd)) : Nat → Wd → Int32 → Int32 → Int32 → Option (Int32 × Wd)
  | 0, _, _, _, _ => none
  | n + 1, w, x9, x10, x11 => (if x1 < x11 then k87 w x9 x10 else bnd (P_X11_minuteGoes F w 96) (fun x16 w15 => gd (inB 12 16) (lt (if (gI w15 96 12) ≤ x9 then x10 else x11 : Int32) (fun x19 => gd (inB 12 16) (lt (maxI x9 (gI w15 96 12) : Int32) (fun x21 => lt (x11 + 1 : Int32) (fun x22 => L_X11_silence_36 F x1 k87 n w15 x21 x19 x22)))))))
set_option maxRecDepth 100000 in
set_option maxHeartbeats 4000000 in
theorem sL_X11_silence_36 {X : Cx} {S : Sx} {r : Int32 × Wd} {F : Nat} {x1 : Int32} {k87 : Wd → Int32 → Int32 → Option (Int32 × Wd)} (hX : Ok X S cX11_silence RX11 5 rm_X11_silence) (hR : HRt X S cX11_silence .int r)  (hk87 : ∀ (w : Wd) (x12 : Int32) (x13 : Int32) , k87 w x12 x13 = some r → V X S w 87 [(0, rf S 88), (2, .int x12), (3, .int x13)] []) : ∀ (n : Nat) (w : Wd) (x9 : Int32) (x10 : Int32) (x11 : Int32) , L_X11_silence_36 F x1 k87 n w x9 x10 x11 = some r → V X S w 36 [(0, rf S 88), (1, .int x1), (2, .int x9), (3, .int x10), (4, .int x11)] [] := by
  intro n
  induction n with
  | zero =>
    intro w x9 x10 x11  hP
    exact nn hP
  | succ n ih =>
    intro w x9 x10 x11  hP
    rw [L_X11_silence_36] at hP
    refine V_iload hX dX11_silence_36 4 rfl ?_
    refine V_iload_n hX dX11_silence_38 1 rfl ?_
    refine V_icmp_gt (tgt := 87) hX dX11_silence_39 (by decide) (fun hc14 => ?_) (fun hc14 => ?_)
    · replace hP := ite_t hc14 hP
      refine V_sub (lv' := [(0, rf S 88), (2, .int x9), (3, .int x10)]) [0, 2, 3] rfl ?_
      exact hk87 _ _ _  hP
    · replace hP := ite_f hc14 hP
      refine V_aload_n hX dX11_silence_42 0 rfl ?_
      refine V_aload_n hX dX11_silence_43 0 rfl ?_
      refine V_getF (j := 96) hX fk_X11_32 tb_88 (fun _ _ _ => rfl) dX11_silence_44 ?_
      obtain ⟨x16, w15, hcw15, hP⟩ := bnd_e hP
      refine V_callVi (As := [rf S 96]) (rest := []) hX mk_X11_307 nk_X11_minuteGoes (fun l => c_X11_minuteGoes l S (by decide) hcw15) tb_88 rfl ⟨rfl, rfl, Nat.le_of_ble_eq_true rfl, Nat.le_of_ble_eq_true rfl⟩ rfl rfl (Nat.le_of_ble_eq_true rfl) dX11_silence_47 ?_
      refine V_pop hX dX11_silence_50 rfl ?_
      refine V_aload_n hX dX11_silence_51 0 rfl ?_
      refine V_getF (j := 96) hX fk_X11_32 tb_88 (fun _ _ _ => rfl) dX11_silence_52 ?_
      refine V_bipush (v := 12) hX dX11_silence_55 (by decide) ?_
      obtain ⟨hi17, hP⟩ := gd_e hP
      refine V_iald hX tb_96 hi17 dX11_silence_57 ?_
      refine V_iload_n hX dX11_silence_58 2 rfl ?_
      have k23 : V X S w15 68 [(0, rf S 88), (1, .int x1), (2, .int x9), (3, .int x10), (4, .int x11)] [.int (if (gI w15 96 12) ≤ x9 then x10 else x11)] := by
        refine V_topi (fun x19 ex19 => ?_)
        replace hP := lt_r ex19 hP
        refine V_istore_n (lv' := [(3, .int x19), (0, rf S 88), (1, .int x1), (2, .int x9), (4, .int x11)]) hX dX11_silence_68 (by decide) rfl ?_
        refine V_iload_n hX dX11_silence_69 3 rfl ?_
        refine V_aload_n hX dX11_silence_70 1 rfl ?_
        refine V_getF (j := 96) hX fk_X11_32 tb_88 (fun _ _ _ => rfl) dX11_silence_71 ?_
        refine V_bipush (v := 12) hX dX11_silence_74 (by decide) ?_
        obtain ⟨hi20, hP⟩ := gd_e hP
        refine V_iald hX tb_96 hi20 dX11_silence_76 ?_
        refine V_max hX mk_X11_280 ⟨Nat.le_of_ble_eq_true rfl, Nat.le_of_ble_eq_true rfl⟩ dX11_silence_77 ?_
        refine V_topi (fun x21 ex21 => ?_)
        replace hP := lt_r ex21 hP
        refine V_istore_n (lv' := [(2, .int x21), (3, .int x19), (0, rf S 88), (1, .int x1), (4, .int x11)]) hX dX11_silence_80 (by decide) rfl ?_
        obtain ⟨x22, ex22⟩ : ∃ y : Int32, y = x11 + 1 := ⟨_, rfl⟩
        replace hP := lt_r ex22 hP
        refine V_iinc (v := x22) (lv' := [(4, .int x22), (2, .int x21), (3, .int x19), (0, rf S 88), (1, .int x1)]) hX dX11_silence_81 (j := 4) rfl (by decide) (by rw [ex22]; rfl) rfl ?_
        refine V_goto (tgt := 36) hX dX11_silence_84 (by decide) ?_
        refine V_sub (lv' := [(0, rf S 88), (1, .int x1), (2, .int x21), (3, .int x19), (4, .int x22)]) [3, 4, 1, 2, 0] rfl ?_
        exact ih _ _ _ _  hP
      refine V_icmp_le (tgt := 67) hX dX11_silence_59 (by decide) (fun hc18 => ?_) (fun hc18 => ?_)
      · refine V_iload_n hX dX11_silence_67 3 rfl ?_
        refine V_selT (c := (gI w15 96 12) ≤ x9) (b := x11) hc18 ?_
        exact k23
      · refine V_iload hX dX11_silence_62 4 rfl ?_
        refine V_goto (tgt := 68) hX dX11_silence_64 (by decide) ?_
        refine V_selF (c := (gI w15 96 12) ≤ x9) (a := x10) hc18 ?_
        exact k23
def P_X11_silence (F : Nat) (w : Wd) (x1 : Int32) : Option (Int32 × Wd) := lt (sI w 88 0 0) (fun w2 => bnd (P_X11_in F w2 (Int32.toInt64 x1) 1 999) (fun x4 w3 => (if x4 = 0 then some ((-1), w3) else bnv (P_X11_puts F w3 ) (fun w6 => gd (inB 12 16) (lt (gI w6 95 12 : Int32) (fun x8 => L_X11_silence_36 F x1 (fun w x12 x13 => lt (sI w 88 1 0) (fun w24 => bnv (P_X11_enters F w24 (Int32.toInt64 x13)) (fun w25 => gd (inB 9 16) (bnv (P_X11_enters F w25 (Int32.toInt64 (gI w25 96 9))) (fun w27 => some (x12, w27)))))) F w6 x8 0 1))))))
set_option maxRecDepth 100000 in
set_option maxHeartbeats 4000000 in
theorem s_X11_silence {X : Cx} {S : Sx} {r : Int32 × Wd} {F : Nat} {w : Wd} {x1 : Int32}  (hX : Ok X S cX11_silence RX11 5 rm_X11_silence) (hR : HRt X S cX11_silence .int r) (hP : P_X11_silence F w x1 = some r) : V X S w 0 [(0, rf S 88), (1, .int x1)] [] := by
  unfold P_X11_silence at hP
  refine V_aload_n hX dX11_silence_0 0 rfl ?_
  refine V_iconst (v := 0) hX dX11_silence_1 (by decide) ?_
  refine V_putI hX fw_X11_102 tb_88 (fun _ _ _ => ⟨Nat.le_of_ble_eq_true rfl, rfl⟩) dX11_silence_2 (fun w2 ew2 => ?_)
  replace hP := lt_r ew2 hP
  refine V_iload_n hX dX11_silence_5 1 rfl ?_
  refine V_i2l hX dX11_silence_6 ?_
  refine V_lconst (v := 1) hX dX11_silence_7 rfl ?_
  refine V_ldc2 (v := 999) hX dX11_silence_8 cn_X11_345 ?_
  obtain ⟨x4, w3, hcw3, hP⟩ := bnd_e hP
  refine V_callSi (As := [.long (Int32.toInt64 x1), .long 1, .long 999]) (rest := []) hX mk_X11_116 nk_X11_in (fun l => c_X11_in l S  hcw3) ⟨rfl, rfl, Nat.le_of_ble_eq_true rfl, Nat.le_of_ble_eq_true rfl⟩ rfl rfl (Nat.le_of_ble_eq_true rfl) dX11_silence_11 ?_
  refine V_if_ne (tgt := 19) hX dX11_silence_14 (by decide) (fun hc5 => ?_) (fun hc5 => ?_)
  · replace hP := ite_f hc5 hP
    refine V_aload_n hX dX11_silence_19 0 rfl ?_
    obtain ⟨w6, hcw6, hP⟩ := bnv_e hP
    refine V_callVv (As := []) (rest := []) hX mk_X11_333 nk_X11_puts (fun l => c_X11_puts l S  hcw6) tb_88 rfl ⟨rfl, rfl, Nat.le_of_ble_eq_true rfl, Nat.le_of_ble_eq_true rfl⟩ rfl rfl (Nat.le_of_ble_eq_true rfl) dX11_silence_20 ?_
    refine V_aload_n hX dX11_silence_23 0 rfl ?_
    refine V_getF (j := 95) hX fk_X11_29 tb_88 (fun _ _ _ => rfl) dX11_silence_24 ?_
    refine V_bipush (v := 12) hX dX11_silence_27 (by decide) ?_
    obtain ⟨hi7, hP⟩ := gd_e hP
    refine V_iald hX tb_95 hi7 dX11_silence_29 ?_
    refine V_topi (fun x8 ex8 => ?_)
    replace hP := lt_r ex8 hP
    refine V_istore_n (lv' := [(2, .int x8), (0, rf S 88), (1, .int x1)]) hX dX11_silence_30 (by decide) rfl ?_
    refine V_iconst (v := 0) hX dX11_silence_31 (by decide) ?_
    refine V_istore_n (lv' := [(3, .int 0), (2, .int x8), (0, rf S 88), (1, .int x1)]) hX dX11_silence_32 (by decide) rfl ?_
    refine V_iconst (v := 1) hX dX11_silence_33 (by decide) ?_
    refine V_istore (lv' := [(4, .int 1), (3, .int 0), (2, .int x8), (0, rf S 88), (1, .int x1)]) hX dX11_silence_34 (by decide) rfl ?_
    refine V_sub (lv' := [(0, rf S 88), (1, .int x1), (2, .int x8), (3, .int 0), (4, .int 1)]) [3, 4, 2, 1, 0] rfl ?_
    have k28 : ∀ (w : Wd) (x12 : Int32) (x13 : Int32) , (lt (sI w 88 1 0) (fun w24 => bnv (P_X11_enters F w24 (Int32.toInt64 x13)) (fun w25 => gd (inB 9 16) (bnv (P_X11_enters F w25 (Int32.toInt64 (gI w25 96 9))) (fun w27 => some (x12, w27)))))) = some r → V X S w 87 [(0, rf S 88), (2, .int x12), (3, .int x13)] [] := by
      intro w x12 x13  hP
      refine V_aload_n hX dX11_silence_87 0 rfl ?_
      refine V_iconst (v := 0) hX dX11_silence_88 (by decide) ?_
      refine V_putI hX fw_X11_110 tb_88 (fun _ _ _ => ⟨Nat.le_of_ble_eq_true rfl, rfl⟩) dX11_silence_89 (fun w24 ew24 => ?_)
      replace hP := lt_r ew24 hP
      refine V_aload_n hX dX11_silence_92 0 rfl ?_
      refine V_iload_n hX dX11_silence_93 2 rfl ?_
      refine V_i2l hX dX11_silence_94 ?_
      obtain ⟨w25, hcw25, hP⟩ := bnv_e hP
      refine V_callVv (As := [.long (Int32.toInt64 x13)]) (rest := []) hX mk_X11_316 nk_X11_enters (fun l => c_X11_enters l S  hcw25) tb_88 rfl ⟨rfl, rfl, Nat.le_of_ble_eq_true rfl, Nat.le_of_ble_eq_true rfl⟩ rfl rfl (Nat.le_of_ble_eq_true rfl) dX11_silence_95 ?_
      refine V_aload_n hX dX11_silence_98 0 rfl ?_
      refine V_aload_n hX dX11_silence_99 0 rfl ?_
      refine V_getF (j := 96) hX fk_X11_32 tb_88 (fun _ _ _ => rfl) dX11_silence_100 ?_
      refine V_bipush (v := 9) hX dX11_silence_103 (by decide) ?_
      obtain ⟨hi26, hP⟩ := gd_e hP
      refine V_iald hX tb_96 hi26 dX11_silence_105 ?_
      refine V_i2l hX dX11_silence_106 ?_
      obtain ⟨w27, hcw27, hP⟩ := bnv_e hP
      refine V_callVv (As := [.long (Int32.toInt64 (gI w25 96 9))]) (rest := []) hX mk_X11_316 nk_X11_enters (fun l => c_X11_enters l S  hcw27) tb_88 rfl ⟨rfl, rfl, Nat.le_of_ble_eq_true rfl, Nat.le_of_ble_eq_true rfl⟩ rfl rfl (Nat.le_of_ble_eq_true rfl) dX11_silence_107 ?_
      refine V_iload_n hX dX11_silence_110 1 rfl ?_
      exact hR _ _ _ _ (Option.some.inj hP) rfl dX11_silence_111
    exact sL_X11_silence_36 hX hR  k28 F _ _ _ _  hP
  · replace hP := ite_t hc5 hP
    refine V_iconst (v := (-1)) hX dX11_silence_17 (by decide) ?_
    exact hR _ _ _ _ (Option.some.inj hP) rfl dX11_silence_18
theorem c_X11_silence (l : Launch) (S : Sx) {r : Int32 × Wd} {F : Nat} {w : Wd} {x1 : Int32}  (h : P_X11_silence F w x1 = some r) : Met l yX11_silence (wsg yX11_silence cX11_silence 5 (some .int)) rm_X11_silence (PC S w [rf S 88, .int x1]) (QCi S r) 0 0 (Aw S) :=
  met_i (by decide) rfl (Nat.le_of_ble_eq_true rfl) ⟨rfl, rfl⟩ (fun X hX hR => s_X11_silence  hX hR h)

-- MustNotStopModel.crowd(I)I
abbrev rm_X11_crowd : Room := { frames := 7, cells := 0, slots := 0, locals := 197 }
theorem nk_X11_crowd : MNk yX11_crowd RX11 1 := ⟨rfl, by decide, by decide, by decide +kernel⟩
def L_X11_crowd_27 (F : Nat) (x1 : Int32) (k74 : Wd → Int32 → Option (Int32 × Wd)) : Nat → Wd → Int32 → Int32 → Option (Int32 × Wd)
  | 0, _, _, _ => none
  | n + 1, w, x7, x8 => (if x1 < x8 then k74 w x7 else gd (inB 15 16) (lt (gI w 96 15 : Int32) (fun x12 => bnd (P_X11_minuteGoes F w 96) (fun x14 w13 => gd (inB 15 16) (lt (if (gI w13 96 15) = x12 then x7 else x8 : Int32) (fun x17 => lt (x8 + 1 : Int32) (fun x18 => L_X11_crowd_27 F x1 k74 n w13 x17 x18)))))))
set_option maxRecDepth 100000 in
set_option maxHeartbeats 4000000 in
theorem sL_X11_crowd_27 {X : Cx} {S : Sx} {r : Int32 × Wd} {F : Nat} {x1 : Int32} {k74 : Wd → Int32 → Option (Int32 × Wd)} (hX : Ok X S cX11_crowd RX11 5 rm_X11_crowd) (hR : HRt X S cX11_crowd .int r)  (hk74 : ∀ (w : Wd) (x9 : Int32) , k74 w x9 = some r → V X S w 74 [(0, rf S 88), (2, .int x9)] []) : ∀ (n : Nat) (w : Wd) (x7 : Int32) (x8 : Int32) , L_X11_crowd_27 F x1 k74 n w x7 x8 = some r → V X S w 27 [(0, rf S 88), (1, .int x1), (2, .int x7), (3, .int x8)] [] := by
  intro n
  induction n with
  | zero =>
    intro w x7 x8  hP
    exact nn hP
  | succ n ih =>
    intro w x7 x8  hP
    rw [L_X11_crowd_27] at hP
    refine V_iload_n hX dX11_crowd_27 3 rfl ?_
    refine V_iload_n hX dX11_crowd_28 1 rfl ?_
    refine V_icmp_gt (tgt := 74) hX dX11_crowd_29 (by decide) (fun hc10 => ?_) (fun hc10 => ?_)
    · replace hP := ite_t hc10 hP
      refine V_sub (lv' := [(0, rf S 88), (2, .int x7)]) [0, 2] rfl ?_
      exact hk74 _ _  hP
    · replace hP := ite_f hc10 hP
      refine V_aload_n hX dX11_crowd_32 0 rfl ?_
      refine V_getF (j := 96) hX fk_X11_32 tb_88 (fun _ _ _ => rfl) dX11_crowd_33 ?_
      refine V_bipush (v := 15) hX dX11_crowd_36 (by decide) ?_
      obtain ⟨hi11, hP⟩ := gd_e hP
      refine V_iald hX tb_96 hi11 dX11_crowd_38 ?_
      refine V_topi (fun x12 ex12 => ?_)
      replace hP := lt_r ex12 hP
      refine V_istore (lv' := [(4, .int x12), (0, rf S 88), (1, .int x1), (2, .int x7), (3, .int x8)]) hX dX11_crowd_39 (by decide) rfl ?_
      refine V_aload_n hX dX11_crowd_41 1 rfl ?_
      refine V_aload_n hX dX11_crowd_42 1 rfl ?_
      refine V_getF (j := 96) hX fk_X11_32 tb_88 (fun _ _ _ => rfl) dX11_crowd_43 ?_
      obtain ⟨x14, w13, hcw13, hP⟩ := bnd_e hP
      refine V_callVi (As := [rf S 96]) (rest := []) hX mk_X11_307 nk_X11_minuteGoes (fun l => c_X11_minuteGoes l S (by decide) hcw13) tb_88 rfl ⟨rfl, rfl, Nat.le_of_ble_eq_true rfl, Nat.le_of_ble_eq_true rfl⟩ rfl rfl (Nat.le_of_ble_eq_true rfl) dX11_crowd_46 ?_
      refine V_pop hX dX11_crowd_49 rfl ?_
      refine V_aload_n hX dX11_crowd_50 1 rfl ?_
      refine V_getF (j := 96) hX fk_X11_32 tb_88 (fun _ _ _ => rfl) dX11_crowd_51 ?_
      refine V_bipush (v := 15) hX dX11_crowd_54 (by decide) ?_
      obtain ⟨hi15, hP⟩ := gd_e hP
      refine V_iald hX tb_96 hi15 dX11_crowd_56 ?_
      refine V_iload hX dX11_crowd_57 0 rfl ?_
      have k19 : V X S w13 67 [(4, .int x12), (0, rf S 88), (1, .int x1), (2, .int x7), (3, .int x8)] [.int (if (gI w13 96 15) = x12 then x7 else x8)] := by
        refine V_topi (fun x17 ex17 => ?_)
        replace hP := lt_r ex17 hP
        refine V_istore_n (lv' := [(2, .int x17), (4, .int x12), (0, rf S 88), (1, .int x1), (3, .int x8)]) hX dX11_crowd_67 (by decide) rfl ?_
        obtain ⟨x18, ex18⟩ : ∃ y : Int32, y = x8 + 1 := ⟨_, rfl⟩
        replace hP := lt_r ex18 hP
        refine V_iinc (v := x18) (lv' := [(3, .int x18), (2, .int x17), (4, .int x12), (0, rf S 88), (1, .int x1)]) hX dX11_crowd_68 (j := 4) rfl (by decide) (by rw [ex18]; rfl) rfl ?_
        refine V_goto (tgt := 27) hX dX11_crowd_71 (by decide) ?_
        refine V_sub (lv' := [(0, rf S 88), (1, .int x1), (2, .int x17), (3, .int x18)]) [3, 4, 1, 0] rfl ?_
        exact ih _ _ _  hP
      refine V_icmp_eq (tgt := 66) hX dX11_crowd_59 (by decide) (fun hc16 => ?_) (fun hc16 => ?_)
      · refine V_iload_n hX dX11_crowd_66 3 rfl ?_
        refine V_selT (c := (gI w13 96 15) = x12) (b := x8) hc16 ?_
        exact k19
      · refine V_iload_n hX dX11_crowd_62 4 rfl ?_
        refine V_goto (tgt := 67) hX dX11_crowd_63 (by decide) ?_
        refine V_selF (c := (gI w13 96 15) = x12) (a := x7) hc16 ?_
        exact k19
def P_X11_crowd (F : Nat) (w : Wd) (x1 : Int32) : Option (Int32 × Wd) := lt (sI w 88 0 0) (fun w2 => bnd (P_X11_in F w2 (Int32.toInt64 x1) 0 999) (fun x4 w3 => (if x4 = 0 then some ((-1), w3) else bnv (P_X11_puts F w3 ) (fun w6 => L_X11_crowd_27 F x1 (fun w x9 => lt (sI w 88 1 0) (fun w20 => bnv (P_X11_enters F w20 (Int32.toInt64 x9)) (fun w21 => gd (inB 15 16) (bnd (P_J6_bitCount_0f7a4 F w21 (gI w21 96 15)) (fun x24 w23 => bnv (P_X11_enters F w23 (Int32.toInt64 x24)) (fun w25 => gd (inB 15 16) (some (gI w25 96 15, w25)))))))) F w6 0 1))))
set_option maxRecDepth 100000 in
set_option maxHeartbeats 4000000 in
theorem s_X11_crowd {X : Cx} {S : Sx} {r : Int32 × Wd} {F : Nat} {w : Wd} {x1 : Int32}  (hX : Ok X S cX11_crowd RX11 5 rm_X11_crowd) (hR : HRt X S cX11_crowd .int r) (hP : P_X11_crowd F w x1 = some r) : V X S w 0 [(0, rf S 88), (1, .int x1)] [] := by
  unfold P_X11_crowd at hP
  refine V_aload_n hX dX11_crowd_0 0 rfl ?_
  refine V_iconst (v := 0) hX dX11_crowd_1 (by decide) ?_
  refine V_putI hX fw_X11_102 tb_88 (fun _ _ _ => ⟨Nat.le_of_ble_eq_true rfl, rfl⟩) dX11_crowd_2 (fun w2 ew2 => ?_)
  replace hP := lt_r ew2 hP
  refine V_iload_n hX dX11_crowd_5 1 rfl ?_
  refine V_i2l hX dX11_crowd_6 ?_
  refine V_lconst (v := 0) hX dX11_crowd_7 rfl ?_
  refine V_ldc2 (v := 999) hX dX11_crowd_8 cn_X11_345 ?_
  obtain ⟨x4, w3, hcw3, hP⟩ := bnd_e hP
  refine V_callSi (As := [.long (Int32.toInt64 x1), .long 0, .long 999]) (rest := []) hX mk_X11_116 nk_X11_in (fun l => c_X11_in l S  hcw3) ⟨rfl, rfl, Nat.le_of_ble_eq_true rfl, Nat.le_of_ble_eq_true rfl⟩ rfl rfl (Nat.le_of_ble_eq_true rfl) dX11_crowd_11 ?_
  refine V_if_ne (tgt := 19) hX dX11_crowd_14 (by decide) (fun hc5 => ?_) (fun hc5 => ?_)
  · replace hP := ite_f hc5 hP
    refine V_aload_n hX dX11_crowd_19 0 rfl ?_
    obtain ⟨w6, hcw6, hP⟩ := bnv_e hP
    refine V_callVv (As := []) (rest := []) hX mk_X11_333 nk_X11_puts (fun l => c_X11_puts l S  hcw6) tb_88 rfl ⟨rfl, rfl, Nat.le_of_ble_eq_true rfl, Nat.le_of_ble_eq_true rfl⟩ rfl rfl (Nat.le_of_ble_eq_true rfl) dX11_crowd_20 ?_
    refine V_iconst (v := 0) hX dX11_crowd_23 (by decide) ?_
    refine V_istore_n (lv' := [(2, .int 0), (0, rf S 88), (1, .int x1)]) hX dX11_crowd_24 (by decide) rfl ?_
    refine V_iconst (v := 1) hX dX11_crowd_25 (by decide) ?_
    refine V_istore_n (lv' := [(3, .int 1), (2, .int 0), (0, rf S 88), (1, .int x1)]) hX dX11_crowd_26 (by decide) rfl ?_
    refine V_sub (lv' := [(0, rf S 88), (1, .int x1), (2, .int 0), (3, .int 1)]) [2, 3, 1, 0] rfl ?_
    have k27 : ∀ (w : Wd) (x9 : Int32) , (lt (sI w 88 1 0) (fun w20 => bnv (P_X11_enters F w20 (Int32.toInt64 x9)) (fun w21 => gd (inB 15 16) (bnd (P_J6_bitCount_0f7a4 F w21 (gI w21 96 15)) (fun x24 w23 => bnv (P_X11_enters F w23 (Int32.toInt64 x24)) (fun w25 => gd (inB 15 16) (some (gI w25 96 15, w25)))))))) = some r → V X S w 74 [(0, rf S 88), (2, .int x9)] [] := by
      intro w x9  hP
      refine V_aload_n hX dX11_crowd_74 0 rfl ?_
      refine V_iconst (v := 0) hX dX11_crowd_75 (by decide) ?_
      refine V_putI hX fw_X11_110 tb_88 (fun _ _ _ => ⟨Nat.le_of_ble_eq_true rfl, rfl⟩) dX11_crowd_76 (fun w20 ew20 => ?_)
      replace hP := lt_r ew20 hP
      refine V_aload_n hX dX11_crowd_79 0 rfl ?_
      refine V_iload_n hX dX11_crowd_80 1 rfl ?_
      refine V_i2l hX dX11_crowd_81 ?_
      obtain ⟨w21, hcw21, hP⟩ := bnv_e hP
      refine V_callVv (As := [.long (Int32.toInt64 x9)]) (rest := []) hX mk_X11_316 nk_X11_enters (fun l => c_X11_enters l S  hcw21) tb_88 rfl ⟨rfl, rfl, Nat.le_of_ble_eq_true rfl, Nat.le_of_ble_eq_true rfl⟩ rfl rfl (Nat.le_of_ble_eq_true rfl) dX11_crowd_82 ?_
      refine V_aload_n hX dX11_crowd_85 0 rfl ?_
      refine V_aload_n hX dX11_crowd_86 0 rfl ?_
      refine V_getF (j := 96) hX fk_X11_32 tb_88 (fun _ _ _ => rfl) dX11_crowd_87 ?_
      refine V_bipush (v := 15) hX dX11_crowd_90 (by decide) ?_
      obtain ⟨hi22, hP⟩ := gd_e hP
      refine V_iald hX tb_96 hi22 dX11_crowd_92 ?_
      obtain ⟨x24, w23, hcw23, hP⟩ := bnd_e hP
      refine V_callSi (As := [.int (gI w21 96 15)]) (rest := [rf S 88]) hX mk_X11_248 nk_J6_bitCount_0f7a4 (fun l => c_J6_bitCount_0f7a4 l S  hcw23) ⟨rfl, rfl, Nat.le_of_ble_eq_true rfl, Nat.le_of_ble_eq_true rfl⟩ rfl rfl (Nat.le_of_ble_eq_true rfl) dX11_crowd_93 ?_
      refine V_i2l hX dX11_crowd_96 ?_
      obtain ⟨w25, hcw25, hP⟩ := bnv_e hP
      refine V_callVv (As := [.long (Int32.toInt64 x24)]) (rest := []) hX mk_X11_316 nk_X11_enters (fun l => c_X11_enters l S  hcw25) tb_88 rfl ⟨rfl, rfl, Nat.le_of_ble_eq_true rfl, Nat.le_of_ble_eq_true rfl⟩ rfl rfl (Nat.le_of_ble_eq_true rfl) dX11_crowd_97 ?_
      refine V_aload_n hX dX11_crowd_100 0 rfl ?_
      refine V_getF (j := 96) hX fk_X11_32 tb_88 (fun _ _ _ => rfl) dX11_crowd_101 ?_
      refine V_bipush (v := 15) hX dX11_crowd_104 (by decide) ?_
      obtain ⟨hi26, hP⟩ := gd_e hP
      refine V_iald hX tb_96 hi26 dX11_crowd_106 ?_
      exact hR _ _ _ _ (Option.some.inj hP) rfl dX11_crowd_107
    exact sL_X11_crowd_27 hX hR  k27 F _ _ _  hP
  · replace hP := ite_t hc5 hP
    refine V_iconst (v := (-1)) hX dX11_crowd_17 (by decide) ?_
    exact hR _ _ _ _ (Option.some.inj hP) rfl dX11_crowd_18
theorem c_X11_crowd (l : Launch) (S : Sx) {r : Int32 × Wd} {F : Nat} {w : Wd} {x1 : Int32}  (h : P_X11_crowd F w x1 = some r) : Met l yX11_crowd (wsg yX11_crowd cX11_crowd 5 (some .int)) rm_X11_crowd (PC S w [rf S 88, .int x1]) (QCi S r) 0 0 (Aw S) :=
  met_i (by decide) rfl (Nat.le_of_ble_eq_true rfl) ⟨rfl, rfl⟩ (fun X hX hR => s_X11_crowd  hX hR h)

-- MustNotStopModel.swap()I
abbrev rm_X11_swap : Room := { frames := 9, cells := 0, slots := 0, locals := 241 }
theorem nk_X11_swap : MNk yX11_swap RX11 0 := ⟨rfl, by decide, by decide, by decide +kernel⟩
def K_X11_swap_109 (F : Nat) (x10 : Int32) (k115 : Wd → Int32 → Int32 → Int32 → Option (Int32 × Wd)) (rc : Wd → Int32 → Int32 → Int32 → Int32 → Option (Int32 × Wd)) (w : Wd) (x23 : Int32) (x24 : Int32) (x25 : Int32) (x26 : Int32) : Option (Int32 × Wd) := lt (x26 + 1 : Int32) (fun x27 => rc w x23 x24 x25 x27)
set_option maxRecDepth 100000 in
set_option maxHeartbeats 4000000 in
theorem sK_X11_swap_109 {X : Cx} {S : Sx} {r : Int32 × Wd} {F : Nat} {x10 : Int32} {k115 : Wd → Int32 → Int32 → Int32 → Option (Int32 × Wd)} {rc : Wd → Int32 → Int32 → Int32 → Int32 → Option (Int32 × Wd)} {w : Wd} {x23 : Int32} {x24 : Int32} {x25 : Int32} {x26 : Int32} (hX : Ok X S cX11_swap RX11 7 rm_X11_swap) (hR : HRt X S cX11_swap .int r)  (hk115 : ∀ (w : Wd) (x15 : Int32) (x16 : Int32) (x17 : Int32) , k115 w x15 x16 x17 = some r → V X S w 115 [(0, rf S 88), (1, .int x15), (2, .int x16), (3, .int x17), (4, .int x10)] []) (hrc : ∀ (w : Wd) (x11 : Int32) (x12 : Int32) (x13 : Int32) (x14 : Int32) , rc w x11 x12 x13 x14 = some r → V X S w 27 [(0, rf S 88), (1, .int x11), (2, .int x12), (3, .int x13), (4, .int x10), (5, .int x14)] [])  (hP : K_X11_swap_109 F x10 k115 rc w x23 x24 x25 x26 = some r) : V X S w 109 [(0, rf S 88), (1, .int x23), (2, .int x24), (3, .int x25), (4, .int x10), (5, .int x26)] [] := by
  unfold K_X11_swap_109 at hP
  obtain ⟨x27, ex27⟩ : ∃ y : Int32, y = x26 + 1 := ⟨_, rfl⟩
  replace hP := lt_r ex27 hP
  refine V_iinc (v := x27) (lv' := [(5, .int x27), (0, rf S 88), (1, .int x23), (2, .int x24), (3, .int x25), (4, .int x10)]) hX dX11_swap_109 (j := 5) rfl (by decide) (by rw [ex27]; rfl) rfl ?_
  refine V_goto (tgt := 27) hX dX11_swap_112 (by decide) ?_
  refine V_sub (lv' := [(0, rf S 88), (1, .int x23), (2, .int x24), (3, .int x25), (4, .int x10), (5, .int x27)]) [1, 2, 3, 4, 5, 0] rfl ?_
  exact hrc _ _ _ _ _  hP
def L_X11_swap_27 (F : Nat) (x10 : Int32) (k115 : Wd → Int32 → Int32 → Int32 → Option (Int32 × Wd)) : Nat → Wd → Int32 → Int32 → Int32 → Int32 → Option (Int32 × Wd)
  | 0, _, _, _, _, _ => none
  | n + 1, w, x11, x12, x13, x14 => (if (gI w 88 3) ≤ x14 then k115 w x11 x12 x13 else gd (inB 8 16) (bnd (P_X11_has F w (gI w 95 8) x10) (fun x21 w20 => (if x21 = 0 then K_X11_swap_109 F x10 k115 ((L_X11_swap_27 F x10 k115 n)) w20 x11 x12 x13 x14 else gd (inB 8 16) (bnd (P_X11_has F w20 (gI w20 95 8) x14) (fun x30 w29 => (if x30 = 0 then gd (inB 8 16) (bnd (P_X11_rungBy F w29 (((gI w29 95 8) &&& ((ishlI 1 x10) ^^^ ((-1)))) ||| (ishlI 1 x14)) 999) (fun x34 w33 => (if x34 ≤ x11 then K_X11_swap_109 F x10 k115 ((L_X11_swap_27 F x10 k115 n)) w33 x11 x12 x13 x14 else K_X11_swap_109 F x10 k115 ((L_X11_swap_27 F x10 k115 n)) w33 x34 x10 x14 x14))) else K_X11_swap_109 F x10 k115 ((L_X11_swap_27 F x10 k115 n)) w29 x11 x12 x13 x14)))))))
set_option maxRecDepth 100000 in
set_option maxHeartbeats 4000000 in
theorem sL_X11_swap_27 {X : Cx} {S : Sx} {r : Int32 × Wd} {F : Nat} {x10 : Int32} {k115 : Wd → Int32 → Int32 → Int32 → Option (Int32 × Wd)} (hX : Ok X S cX11_swap RX11 7 rm_X11_swap) (hR : HRt X S cX11_swap .int r)  (hk115 : ∀ (w : Wd) (x15 : Int32) (x16 : Int32) (x17 : Int32) , k115 w x15 x16 x17 = some r → V X S w 115 [(0, rf S 88), (1, .int x15), (2, .int x16), (3, .int x17), (4, .int x10)] []) : ∀ (n : Nat) (w : Wd) (x11 : Int32) (x12 : Int32) (x13 : Int32) (x14 : Int32) , L_X11_swap_27 F x10 k115 n w x11 x12 x13 x14 = some r → V X S w 27 [(0, rf S 88), (1, .int x11), (2, .int x12), (3, .int x13), (4, .int x10), (5, .int x14)] [] := by
  intro n
  induction n with
  | zero =>
    intro w x11 x12 x13 x14  hP
    exact nn hP
  | succ n ih =>
    intro w x11 x12 x13 x14  hP
    rw [L_X11_swap_27] at hP
    refine V_iload hX dX11_swap_27 5 rfl ?_
    refine V_aload_n hX dX11_swap_29 0 rfl ?_
    refine V_getI hX fk_X11_113 tb_88 (fun _ _ _ => rfl) dX11_swap_30 ?_
    refine V_icmp_ge (tgt := 115) hX dX11_swap_33 (by decide) (fun hc18 => ?_) (fun hc18 => ?_)
    · replace hP := ite_t hc18 hP
      refine V_sub (lv' := [(0, rf S 88), (1, .int x11), (2, .int x12), (3, .int x13), (4, .int x10)]) [0, 1, 2, 3, 4] rfl ?_
      exact hk115 _ _ _ _  hP
    · replace hP := ite_f hc18 hP
      refine V_aload_n hX dX11_swap_36 0 rfl ?_
      refine V_getF (j := 95) hX fk_X11_29 tb_88 (fun _ _ _ => rfl) dX11_swap_37 ?_
      refine V_bipush (v := 8) hX dX11_swap_40 (by decide) ?_
      obtain ⟨hi19, hP⟩ := gd_e hP
      refine V_iald hX tb_95 hi19 dX11_swap_42 ?_
      refine V_iload hX dX11_swap_43 4 rfl ?_
      obtain ⟨x21, w20, hcw20, hP⟩ := bnd_e hP
      refine V_callSi (As := [.int (gI w 95 8), .int x10]) (rest := []) hX mk_X11_240 nk_X11_has (fun l => c_X11_has l S  hcw20) ⟨rfl, rfl, Nat.le_of_ble_eq_true rfl, Nat.le_of_ble_eq_true rfl⟩ rfl rfl (Nat.le_of_ble_eq_true rfl) dX11_swap_45 ?_
      refine V_if_eq (tgt := 109) hX dX11_swap_48 (by decide) (fun hc22 => ?_) (fun hc22 => ?_)
      · replace hP := ite_t hc22 hP
        exact sK_X11_swap_109 hX hR  hk115 ih  hP
      · replace hP := ite_f hc22 hP
        refine V_aload_n hX dX11_swap_51 0 rfl ?_
        refine V_getF (j := 95) hX fk_X11_29 tb_88 (fun _ _ _ => rfl) dX11_swap_52 ?_
        refine V_bipush (v := 8) hX dX11_swap_55 (by decide) ?_
        obtain ⟨hi28, hP⟩ := gd_e hP
        refine V_iald hX tb_95 hi28 dX11_swap_57 ?_
        refine V_iload hX dX11_swap_58 5 rfl ?_
        obtain ⟨x30, w29, hcw29, hP⟩ := bnd_e hP
        refine V_callSi (As := [.int (gI w20 95 8), .int x14]) (rest := []) hX mk_X11_240 nk_X11_has (fun l => c_X11_has l S  hcw29) ⟨rfl, rfl, Nat.le_of_ble_eq_true rfl, Nat.le_of_ble_eq_true rfl⟩ rfl rfl (Nat.le_of_ble_eq_true rfl) dX11_swap_60 ?_
        refine V_if_ne (tgt := 109) hX dX11_swap_63 (by decide) (fun hc31 => ?_) (fun hc31 => ?_)
        · replace hP := ite_f hc31 hP
          exact sK_X11_swap_109 hX hR  hk115 ih  hP
        · replace hP := ite_t hc31 hP
          refine V_aload_n hX dX11_swap_66 0 rfl ?_
          refine V_aload_n hX dX11_swap_67 0 rfl ?_
          refine V_getF (j := 95) hX fk_X11_29 tb_88 (fun _ _ _ => rfl) dX11_swap_68 ?_
          refine V_bipush (v := 8) hX dX11_swap_71 (by decide) ?_
          obtain ⟨hi32, hP⟩ := gd_e hP
          refine V_iald hX tb_95 hi32 dX11_swap_73 ?_
          refine V_iconst (v := 1) hX dX11_swap_74 (by decide) ?_
          refine V_iload hX dX11_swap_75 4 rfl ?_
          refine V_ishl hX dX11_swap_77 ?_
          refine V_iconst (v := (-1)) hX dX11_swap_78 (by decide) ?_
          refine V_ixor hX dX11_swap_79 ?_
          refine V_iand hX dX11_swap_80 ?_
          refine V_iconst (v := 1) hX dX11_swap_81 (by decide) ?_
          refine V_iload hX dX11_swap_82 5 rfl ?_
          refine V_ishl hX dX11_swap_84 ?_
          refine V_ior hX dX11_swap_85 ?_
          refine V_sipush (v := 999) hX dX11_swap_86 (by decide) ?_
          obtain ⟨x34, w33, hcw33, hP⟩ := bnd_e hP
          refine V_callVi (As := [.int (((gI w29 95 8) &&& ((ishlI 1 x10) ^^^ ((-1)))) ||| (ishlI 1 x14)), .int 999]) (rest := []) hX mk_X11_342 nk_X11_rungBy (fun l => c_X11_rungBy l S  hcw33) tb_88 rfl ⟨rfl, rfl, Nat.le_of_ble_eq_true rfl, Nat.le_of_ble_eq_true rfl⟩ rfl rfl (Nat.le_of_ble_eq_true rfl) dX11_swap_89 ?_
          refine V_istore (lv' := [(6, .int x34), (0, rf S 88), (1, .int x11), (2, .int x12), (3, .int x13), (4, .int x10), (5, .int x14)]) hX dX11_swap_92 (by decide) rfl ?_
          refine V_iload hX dX11_swap_94 0 rfl ?_
          refine V_iload_n hX dX11_swap_96 2 rfl ?_
          refine V_icmp_le (tgt := 109) hX dX11_swap_97 (by decide) (fun hc35 => ?_) (fun hc35 => ?_)
          · replace hP := ite_t hc35 hP
            refine V_sub (lv' := [(0, rf S 88), (1, .int x11), (2, .int x12), (3, .int x13), (4, .int x10), (5, .int x14)]) [1, 2, 3, 4, 5, 6] rfl ?_
            exact sK_X11_swap_109 hX hR  hk115 ih  hP
          · replace hP := ite_f hc35 hP
            refine V_iload hX dX11_swap_100 0 rfl ?_
            refine V_istore_n (lv' := [(1, .int x34), (6, .int x34), (0, rf S 88), (2, .int x12), (3, .int x13), (4, .int x10), (5, .int x14)]) hX dX11_swap_102 (by decide) rfl ?_
            refine V_iload hX dX11_swap_103 5 rfl ?_
            refine V_istore_n (lv' := [(2, .int x10), (1, .int x34), (6, .int x34), (0, rf S 88), (3, .int x13), (4, .int x10), (5, .int x14)]) hX dX11_swap_105 (by decide) rfl ?_
            refine V_iload hX dX11_swap_106 6 rfl ?_
            refine V_istore_n (lv' := [(3, .int x14), (2, .int x10), (1, .int x34), (6, .int x34), (0, rf S 88), (4, .int x10), (5, .int x14)]) hX dX11_swap_108 (by decide) rfl ?_
            refine V_sub (lv' := [(0, rf S 88), (1, .int x34), (2, .int x10), (3, .int x14), (4, .int x10), (5, .int x14)]) [4, 2, 1, 0, 5, 6] rfl ?_
            exact sK_X11_swap_109 hX hR  hk115 ih  hP
def L_X11_swap_15 (F : Nat)  (k121 : Wd → Int32 → Int32 → Int32 → Option (Int32 × Wd)) : Nat → Wd → Int32 → Int32 → Int32 → Int32 → Option (Int32 × Wd)
  | 0, _, _, _, _, _ => none
  | n + 1, w, x2, x3, x4, x5 => (if (gI w 88 3) ≤ x5 then k121 w x2 x3 x4 else L_X11_swap_27 F x5 (fun w x15 x16 x17 => lt (x5 + 1 : Int32) (fun x36 => L_X11_swap_15 F  k121 n w x15 x16 x17 x36)) F w x2 x3 x4 0)
set_option maxRecDepth 100000 in
set_option maxHeartbeats 4000000 in
theorem sL_X11_swap_15 {X : Cx} {S : Sx} {r : Int32 × Wd} {F : Nat}  {k121 : Wd → Int32 → Int32 → Int32 → Option (Int32 × Wd)} (hX : Ok X S cX11_swap RX11 7 rm_X11_swap) (hR : HRt X S cX11_swap .int r)  (hk121 : ∀ (w : Wd) (x6 : Int32) (x7 : Int32) (x8 : Int32) , k121 w x6 x7 x8 = some r → V X S w 121 [(0, rf S 88), (1, .int x6), (2, .int x7), (3, .int x8)] []) : ∀ (n : Nat) (w : Wd) (x2 : Int32) (x3 : Int32) (x4 : Int32) (x5 : Int32) , L_X11_swap_15 F  k121 n w x2 x3 x4 x5 = some r → V X S w 15 [(0, rf S 88), (1, .int x2), (2, .int x3), (3, .int x4), (4, .int x5)] [] := by
  intro n
  induction n with
  | zero =>
    intro w x2 x3 x4 x5  hP
    exact nn hP
  | succ n ih =>
    intro w x2 x3 x4 x5  hP
    rw [L_X11_swap_15] at hP
    refine V_iload hX dX11_swap_15 4 rfl ?_
    refine V_aload_n hX dX11_swap_17 0 rfl ?_
    refine V_getI hX fk_X11_113 tb_88 (fun _ _ _ => rfl) dX11_swap_18 ?_
    refine V_icmp_ge (tgt := 121) hX dX11_swap_21 (by decide) (fun hc9 => ?_) (fun hc9 => ?_)
    · replace hP := ite_t hc9 hP
      refine V_sub (lv' := [(0, rf S 88), (1, .int x2), (2, .int x3), (3, .int x4)]) [0, 1, 2, 3] rfl ?_
      exact hk121 _ _ _ _  hP
    · replace hP := ite_f hc9 hP
      refine V_iconst (v := 0) hX dX11_swap_24 (by decide) ?_
      refine V_istore (lv' := [(5, .int 0), (0, rf S 88), (1, .int x2), (2, .int x3), (3, .int x4), (4, .int x5)]) hX dX11_swap_25 (by decide) rfl ?_
      refine V_sub (lv' := [(0, rf S 88), (1, .int x2), (2, .int x3), (3, .int x4), (4, .int x5), (5, .int 0)]) [1, 2, 3, 4, 5, 0] rfl ?_
      have k37 : ∀ (w : Wd) (x15 : Int32) (x16 : Int32) (x17 : Int32) , (lt (x5 + 1 : Int32) (fun x36 => L_X11_swap_15 F  k121 n w x15 x16 x17 x36)) = some r → V X S w 115 [(0, rf S 88), (1, .int x15), (2, .int x16), (3, .int x17), (4, .int x5)] [] := by
        intro w x15 x16 x17  hP
        obtain ⟨x36, ex36⟩ : ∃ y : Int32, y = x5 + 1 := ⟨_, rfl⟩
        replace hP := lt_r ex36 hP
        refine V_iinc (v := x36) (lv' := [(4, .int x36), (0, rf S 88), (1, .int x15), (2, .int x16), (3, .int x17)]) hX dX11_swap_115 (j := 4) rfl (by decide) (by rw [ex36]; rfl) rfl ?_
        refine V_goto (tgt := 15) hX dX11_swap_118 (by decide) ?_
        refine V_sub (lv' := [(0, rf S 88), (1, .int x15), (2, .int x16), (3, .int x17), (4, .int x36)]) [1, 2, 3, 4, 0] rfl ?_
        exact ih _ _ _ _ _  hP
      exact sL_X11_swap_27 hX hR  k37 F _ _ _ _ _  hP
def P_X11_swap (F : Nat) (w : Wd)  : Option (Int32 × Wd) := lt (sI w 88 0 0) (fun w1 => L_X11_swap_15 F  (fun w x6 x7 x8 => (if (0 : Int32) ≤ x7 then lt (sI w 88 1 0) (fun w39 => bnv (P_X11_enters F w39 (Int32.toInt64 x7)) (fun w40 => bnv (P_X11_enters F w40 (Int32.toInt64 x8)) (fun w41 => some (x6, w41)))) else some ((-2), w))) F w1 ((-2)) ((-1)) ((-1)) 0)
set_option maxRecDepth 100000 in
set_option maxHeartbeats 4000000 in
theorem s_X11_swap {X : Cx} {S : Sx} {r : Int32 × Wd} {F : Nat} {w : Wd}   (hX : Ok X S cX11_swap RX11 7 rm_X11_swap) (hR : HRt X S cX11_swap .int r) (hP : P_X11_swap F w  = some r) : V X S w 0 [(0, rf S 88)] [] := by
  unfold P_X11_swap at hP
  refine V_aload_n hX dX11_swap_0 0 rfl ?_
  refine V_iconst (v := 0) hX dX11_swap_1 (by decide) ?_
  refine V_putI hX fw_X11_102 tb_88 (fun _ _ _ => ⟨Nat.le_of_ble_eq_true rfl, rfl⟩) dX11_swap_2 (fun w1 ew1 => ?_)
  replace hP := lt_r ew1 hP
  refine V_bipush (v := (-2)) hX dX11_swap_5 (by decide) ?_
  refine V_istore_n (lv' := [(1, .int ((-2))), (0, rf S 88)]) hX dX11_swap_7 (by decide) rfl ?_
  refine V_iconst (v := (-1)) hX dX11_swap_8 (by decide) ?_
  refine V_istore_n (lv' := [(2, .int ((-1))), (1, .int ((-2))), (0, rf S 88)]) hX dX11_swap_9 (by decide) rfl ?_
  refine V_iconst (v := (-1)) hX dX11_swap_10 (by decide) ?_
  refine V_istore_n (lv' := [(3, .int ((-1))), (2, .int ((-1))), (1, .int ((-2))), (0, rf S 88)]) hX dX11_swap_11 (by decide) rfl ?_
  refine V_iconst (v := 0) hX dX11_swap_12 (by decide) ?_
  refine V_istore (lv' := [(4, .int 0), (3, .int ((-1))), (2, .int ((-1))), (1, .int ((-2))), (0, rf S 88)]) hX dX11_swap_13 (by decide) rfl ?_
  refine V_sub (lv' := [(0, rf S 88), (1, .int ((-2))), (2, .int ((-1))), (3, .int ((-1))), (4, .int 0)]) [4, 3, 2, 1, 0] rfl ?_
  have k42 : ∀ (w : Wd) (x6 : Int32) (x7 : Int32) (x8 : Int32) , ((if (0 : Int32) ≤ x7 then lt (sI w 88 1 0) (fun w39 => bnv (P_X11_enters F w39 (Int32.toInt64 x7)) (fun w40 => bnv (P_X11_enters F w40 (Int32.toInt64 x8)) (fun w41 => some (x6, w41)))) else some ((-2), w))) = some r → V X S w 121 [(0, rf S 88), (1, .int x6), (2, .int x7), (3, .int x8)] [] := by
    intro w x6 x7 x8  hP
    refine V_iload_n hX dX11_swap_121 2 rfl ?_
    refine V_if_ge (tgt := 128) hX dX11_swap_122 (by decide) (fun hc38 => ?_) (fun hc38 => ?_)
    · replace hP := ite_t hc38 hP
      refine V_aload_n hX dX11_swap_128 0 rfl ?_
      refine V_iconst (v := 0) hX dX11_swap_129 (by decide) ?_
      refine V_putI hX fw_X11_110 tb_88 (fun _ _ _ => ⟨Nat.le_of_ble_eq_true rfl, rfl⟩) dX11_swap_130 (fun w39 ew39 => ?_)
      replace hP := lt_r ew39 hP
      refine V_aload_n hX dX11_swap_133 0 rfl ?_
      refine V_iload_n hX dX11_swap_134 2 rfl ?_
      refine V_i2l hX dX11_swap_135 ?_
      obtain ⟨w40, hcw40, hP⟩ := bnv_e hP
      refine V_callVv (As := [.long (Int32.toInt64 x7)]) (rest := []) hX mk_X11_316 nk_X11_enters (fun l => c_X11_enters l S  hcw40) tb_88 rfl ⟨rfl, rfl, Nat.le_of_ble_eq_true rfl, Nat.le_of_ble_eq_true rfl⟩ rfl rfl (Nat.le_of_ble_eq_true rfl) dX11_swap_136 ?_
      refine V_aload_n hX dX11_swap_139 0 rfl ?_
      refine V_iload_n hX dX11_swap_140 3 rfl ?_
      refine V_i2l hX dX11_swap_141 ?_
      obtain ⟨w41, hcw41, hP⟩ := bnv_e hP
      refine V_callVv (As := [.long (Int32.toInt64 x8)]) (rest := []) hX mk_X11_316 nk_X11_enters (fun l => c_X11_enters l S  hcw41) tb_88 rfl ⟨rfl, rfl, Nat.le_of_ble_eq_true rfl, Nat.le_of_ble_eq_true rfl⟩ rfl rfl (Nat.le_of_ble_eq_true rfl) dX11_swap_142 ?_
      refine V_iload_n hX dX11_swap_145 1 rfl ?_
      exact hR _ _ _ _ (Option.some.inj hP) rfl dX11_swap_146
    · replace hP := ite_f hc38 hP
      refine V_bipush (v := (-2)) hX dX11_swap_125 (by decide) ?_
      exact hR _ _ _ _ (Option.some.inj hP) rfl dX11_swap_127
  exact sL_X11_swap_15 hX hR  k42 F _ _ _ _ _  hP
theorem c_X11_swap (l : Launch) (S : Sx) {r : Int32 × Wd} {F : Nat} {w : Wd}   (h : P_X11_swap F w  = some r) : Met l yX11_swap (wsg yX11_swap cX11_swap 7 (some .int)) rm_X11_swap (PC S w [rf S 88]) (QCi S r) 0 0 (Aw S) :=
  met_i (by decide) rfl (Nat.le_of_ble_eq_true rfl) ⟨rfl, rfl⟩ (fun X hX hR => s_X11_swap  hX hR h)

-- MustNotStopModel.ready(II)I
abbrev rm_X11_ready : Room := { frames := 8, cells := 0, slots := 0, locals := 221 }
theorem nk_X11_ready : MNk yX11_ready RX11 2 := ⟨rfl, by decide, by decide, by decide +kernel⟩
def L_X11_ready_29 (F : Nat) (x1 : Int32) (x2 : Int32) (k111 : Wd → Option (Int32 × Wd)) : Nat → Wd → Int32 → Option (Int32 × Wd)
  | 0, _, _ => none
  | n + 1, w, x10 => (if (120 : Int32) < x10 then k111 w  else bnv (P_X11_puts F w ) (fun w12 => gd (inB 8 16) (gd (inB 8 16) (lt (sI w12 96 8 ((gI w12 96 8) &&& ((ishlI 1 x1) ^^^ ((-1))))) (fun w15 => bnd (P_X11_goesOn F w15 96 x10) (fun x17 w16 => gd (inB 8 16) (lt (sI w16 96 8 (ishlI 1 x1)) (fun w19 => gd (inB x1 16) (lt (gI w19 96 x1.toNatClampNeg : Int32) (fun x21 => bnd (P_X11_rungFor F w19 x2) (fun x23 w22 => (if x23 = x2 then lt (sI w22 88 1 0) (fun w26 => bnv (P_X11_enters F w26 (Int32.toInt64 x21)) (fun w27 => some (x10, w27))) else lt (x10 + 1 : Int32) (fun x25 => L_X11_ready_29 F x1 x2 k111 n w22 x25)))))))))))))
set_option maxRecDepth 100000 in
set_option maxHeartbeats 4000000 in
theorem sL_X11_ready_29 {X : Cx} {S : Sx} {r : Int32 × Wd} {F : Nat} {x1 : Int32} {x2 : Int32} {k111 : Wd → Option (Int32 × Wd)} (hX : Ok X S cX11_ready RX11 5 rm_X11_ready) (hR : HRt X S cX11_ready .int r)  (hk111 : ∀ (w : Wd), k111 w = some r → V X S w 111 [] []) : ∀ (n : Nat) (w : Wd) (x10 : Int32) , L_X11_ready_29 F x1 x2 k111 n w x10 = some r → V X S w 29 [(0, rf S 88), (1, .int x1), (2, .int x2), (3, .int x10)] [] := by
  intro n
  induction n with
  | zero =>
    intro w x10  hP
    exact nn hP
  | succ n ih =>
    intro w x10  hP
    rw [L_X11_ready_29] at hP
    refine V_iload_n hX dX11_ready_29 3 rfl ?_
    refine V_bipush (v := 120) hX dX11_ready_30 (by decide) ?_
    refine V_icmp_gt (tgt := 111) hX dX11_ready_32 (by decide) (fun hc11 => ?_) (fun hc11 => ?_)
    · replace hP := ite_t hc11 hP
      refine V_sub (lv' := []) [] rfl ?_
      exact hk111 _   hP
    · replace hP := ite_f hc11 hP
      refine V_aload_n hX dX11_ready_35 0 rfl ?_
      obtain ⟨w12, hcw12, hP⟩ := bnv_e hP
      refine V_callVv (As := []) (rest := []) hX mk_X11_333 nk_X11_puts (fun l => c_X11_puts l S  hcw12) tb_88 rfl ⟨rfl, rfl, Nat.le_of_ble_eq_true rfl, Nat.le_of_ble_eq_true rfl⟩ rfl rfl (Nat.le_of_ble_eq_true rfl) dX11_ready_36 ?_
      refine V_aload_n hX dX11_ready_39 0 rfl ?_
      refine V_getF (j := 96) hX fk_X11_32 tb_88 (fun _ _ _ => rfl) dX11_ready_40 ?_
      refine V_bipush (v := 8) hX dX11_ready_43 (by decide) ?_
      refine V_dup2 hX dX11_ready_45 rfl rfl ?_
      obtain ⟨hi13, hP⟩ := gd_e hP
      refine V_iald hX tb_96 hi13 dX11_ready_46 ?_
      refine V_iconst (v := 1) hX dX11_ready_47 (by decide) ?_
      refine V_iload_n hX dX11_ready_48 1 rfl ?_
      refine V_ishl hX dX11_ready_49 ?_
      refine V_iconst (v := (-1)) hX dX11_ready_50 (by decide) ?_
      refine V_ixor hX dX11_ready_51 ?_
      refine V_iand hX dX11_ready_52 ?_
      obtain ⟨hi14, hP⟩ := gd_e hP
      refine V_iast hX tb_96 hi14 dX11_ready_53 (fun w15 ew15 => ?_)
      replace hP := lt_r ew15 hP
      refine V_aload_n hX dX11_ready_54 0 rfl ?_
      refine V_aload_n hX dX11_ready_55 0 rfl ?_
      refine V_getF (j := 96) hX fk_X11_32 tb_88 (fun _ _ _ => rfl) dX11_ready_56 ?_
      refine V_iload_n hX dX11_ready_59 3 rfl ?_
      obtain ⟨x17, w16, hcw16, hP⟩ := bnd_e hP
      refine V_callVi (As := [rf S 96, .int x10]) (rest := []) hX mk_X11_313 nk_X11_goesOn (fun l => c_X11_goesOn l S (by decide) hcw16) tb_88 rfl ⟨rfl, rfl, Nat.le_of_ble_eq_true rfl, Nat.le_of_ble_eq_true rfl⟩ rfl rfl (Nat.le_of_ble_eq_true rfl) dX11_ready_60 ?_
      refine V_pop hX dX11_ready_63 rfl ?_
      refine V_aload_n hX dX11_ready_64 0 rfl ?_
      refine V_getF (j := 96) hX fk_X11_32 tb_88 (fun _ _ _ => rfl) dX11_ready_65 ?_
      refine V_bipush (v := 8) hX dX11_ready_68 (by decide) ?_
      refine V_iconst (v := 1) hX dX11_ready_70 (by decide) ?_
      refine V_iload_n hX dX11_ready_71 1 rfl ?_
      refine V_ishl hX dX11_ready_72 ?_
      obtain ⟨hi18, hP⟩ := gd_e hP
      refine V_iast hX tb_96 hi18 dX11_ready_73 (fun w19 ew19 => ?_)
      replace hP := lt_r ew19 hP
      refine V_aload_n hX dX11_ready_74 0 rfl ?_
      refine V_getF (j := 96) hX fk_X11_32 tb_88 (fun _ _ _ => rfl) dX11_ready_75 ?_
      refine V_iload_n hX dX11_ready_78 1 rfl ?_
      obtain ⟨hi20, hP⟩ := gd_e hP
      refine V_iald hX tb_96 hi20 dX11_ready_79 ?_
      refine V_topi (fun x21 ex21 => ?_)
      replace hP := lt_r ex21 hP
      refine V_istore (lv' := [(4, .int x21), (0, rf S 88), (1, .int x1), (2, .int x2), (3, .int x10)]) hX dX11_ready_80 (by decide) rfl ?_
      refine V_aload_n hX dX11_ready_82 1 rfl ?_
      refine V_iload_n hX dX11_ready_83 3 rfl ?_
      obtain ⟨x23, w22, hcw22, hP⟩ := bnd_e hP
      refine V_callVi (As := [.int x2]) (rest := []) hX mk_X11_339 nk_X11_rungFor (fun l => c_X11_rungFor l S  hcw22) tb_88 rfl ⟨rfl, rfl, Nat.le_of_ble_eq_true rfl, Nat.le_of_ble_eq_true rfl⟩ rfl rfl (Nat.le_of_ble_eq_true rfl) dX11_ready_84 ?_
      refine V_iload_n hX dX11_ready_87 3 rfl ?_
      refine V_icmp_ne (tgt := 105) hX dX11_ready_88 (by decide) (fun hc24 => ?_) (fun hc24 => ?_)
      · replace hP := ite_f hc24 hP
        obtain ⟨x25, ex25⟩ : ∃ y : Int32, y = x10 + 1 := ⟨_, rfl⟩
        replace hP := lt_r ex25 hP
        refine V_iinc (v := x25) (lv' := [(3, .int x25), (4, .int x21), (0, rf S 88), (1, .int x1), (2, .int x2)]) hX dX11_ready_105 (j := 4) rfl (by decide) (by rw [ex25]; rfl) rfl ?_
        refine V_goto (tgt := 29) hX dX11_ready_108 (by decide) ?_
        refine V_sub (lv' := [(0, rf S 88), (1, .int x1), (2, .int x2), (3, .int x25)]) [2, 3, 4, 0] rfl ?_
        exact ih _ _  hP
      · replace hP := ite_t hc24 hP
        refine V_aload_n hX dX11_ready_91 1 rfl ?_
        refine V_iconst (v := 0) hX dX11_ready_92 (by decide) ?_
        refine V_putI hX fw_X11_110 tb_88 (fun _ _ _ => ⟨Nat.le_of_ble_eq_true rfl, rfl⟩) dX11_ready_93 (fun w26 ew26 => ?_)
        replace hP := lt_r ew26 hP
        refine V_aload_n hX dX11_ready_96 1 rfl ?_
        refine V_iload hX dX11_ready_97 0 rfl ?_
        refine V_i2l hX dX11_ready_99 ?_
        obtain ⟨w27, hcw27, hP⟩ := bnv_e hP
        refine V_callVv (As := [.long (Int32.toInt64 x21)]) (rest := []) hX mk_X11_316 nk_X11_enters (fun l => c_X11_enters l S  hcw27) tb_88 rfl ⟨rfl, rfl, Nat.le_of_ble_eq_true rfl, Nat.le_of_ble_eq_true rfl⟩ rfl rfl (Nat.le_of_ble_eq_true rfl) dX11_ready_100 ?_
        refine V_iload_n hX dX11_ready_103 4 rfl ?_
        exact hR _ _ _ _ (Option.some.inj hP) rfl dX11_ready_104
def P_X11_ready (F : Nat) (w : Wd) (x1 : Int32) (x2 : Int32) : Option (Int32 × Wd) := lt (sI w 88 0 0) (fun w3 => bnd (P_X11_isRinger F w3 x1) (fun x5 w4 => (if x5 = 0 then some ((-1), w4) else bnd (P_X11_in F w4 (Int32.toInt64 x2) 1 60) (fun x8 w7 => (if x8 = 0 then some ((-1), w7) else L_X11_ready_29 F x1 x2 (fun w  => some ((-2), w)) F w7 0)))))
set_option maxRecDepth 100000 in
set_option maxHeartbeats 4000000 in
theorem s_X11_ready {X : Cx} {S : Sx} {r : Int32 × Wd} {F : Nat} {w : Wd} {x1 : Int32} {x2 : Int32}  (hX : Ok X S cX11_ready RX11 5 rm_X11_ready) (hR : HRt X S cX11_ready .int r) (hP : P_X11_ready F w x1 x2 = some r) : V X S w 0 [(0, rf S 88), (1, .int x1), (2, .int x2)] [] := by
  unfold P_X11_ready at hP
  refine V_aload_n hX dX11_ready_0 0 rfl ?_
  refine V_iconst (v := 0) hX dX11_ready_1 (by decide) ?_
  refine V_putI hX fw_X11_102 tb_88 (fun _ _ _ => ⟨Nat.le_of_ble_eq_true rfl, rfl⟩) dX11_ready_2 (fun w3 ew3 => ?_)
  replace hP := lt_r ew3 hP
  refine V_aload_n hX dX11_ready_5 0 rfl ?_
  refine V_iload_n hX dX11_ready_6 1 rfl ?_
  obtain ⟨x5, w4, hcw4, hP⟩ := bnd_e hP
  refine V_callVi (As := [.int x1]) (rest := []) hX mk_X11_260 nk_X11_isRinger (fun l => c_X11_isRinger l S  hcw4) tb_88 rfl ⟨rfl, rfl, Nat.le_of_ble_eq_true rfl, Nat.le_of_ble_eq_true rfl⟩ rfl rfl (Nat.le_of_ble_eq_true rfl) dX11_ready_7 ?_
  refine V_if_eq (tgt := 25) hX dX11_ready_10 (by decide) (fun hc6 => ?_) (fun hc6 => ?_)
  · replace hP := ite_t hc6 hP
    refine V_iconst (v := (-1)) hX dX11_ready_25 (by decide) ?_
    exact hR _ _ _ _ (Option.some.inj hP) rfl dX11_ready_26
  · replace hP := ite_f hc6 hP
    refine V_iload_n hX dX11_ready_13 2 rfl ?_
    refine V_i2l hX dX11_ready_14 ?_
    refine V_lconst (v := 1) hX dX11_ready_15 rfl ?_
    refine V_ldc2 (v := 60) hX dX11_ready_16 cn_X11_347 ?_
    obtain ⟨x8, w7, hcw7, hP⟩ := bnd_e hP
    refine V_callSi (As := [.long (Int32.toInt64 x2), .long 1, .long 60]) (rest := []) hX mk_X11_116 nk_X11_in (fun l => c_X11_in l S  hcw7) ⟨rfl, rfl, Nat.le_of_ble_eq_true rfl, Nat.le_of_ble_eq_true rfl⟩ rfl rfl (Nat.le_of_ble_eq_true rfl) dX11_ready_19 ?_
    refine V_if_ne (tgt := 27) hX dX11_ready_22 (by decide) (fun hc9 => ?_) (fun hc9 => ?_)
    · replace hP := ite_f hc9 hP
      refine V_iconst (v := 0) hX dX11_ready_27 (by decide) ?_
      refine V_istore_n (lv' := [(3, .int 0), (0, rf S 88), (1, .int x1), (2, .int x2)]) hX dX11_ready_28 (by decide) rfl ?_
      refine V_sub (lv' := [(0, rf S 88), (1, .int x1), (2, .int x2), (3, .int 0)]) [1, 2, 3, 0] rfl ?_
      have k28 : ∀ (w : Wd)  , (some ((-2), w)) = some r → V X S w 111 [] [] := by
        intro w   hP
        refine V_bipush (v := (-2)) hX dX11_ready_111 (by decide) ?_
        exact hR _ _ _ _ (Option.some.inj hP) rfl dX11_ready_113
      exact sL_X11_ready_29 hX hR  k28 F _ _  hP
    · replace hP := ite_t hc9 hP
      refine V_iconst (v := (-1)) hX dX11_ready_25 (by decide) ?_
      exact hR _ _ _ _ (Option.some.inj hP) rfl dX11_ready_26
theorem c_X11_ready (l : Launch) (S : Sx) {r : Int32 × Wd} {F : Nat} {w : Wd} {x1 : Int32} {x2 : Int32}  (h : P_X11_ready F w x1 x2 = some r) : Met l yX11_ready (wsg yX11_ready cX11_ready 5 (some .int)) rm_X11_ready (PC S w [rf S 88, .int x1, .int x2]) (QCi S r) 0 0 (Aw S) :=
  met_i (by decide) rfl (Nat.le_of_ble_eq_true rfl) ⟨rfl, rfl⟩ (fun X hX hR => s_X11_ready  hX hR h)

-- MustNotStopModel.isFine(II)Z
abbrev rm_X11_isFine : Room := { frames := 8, cells := 0, slots := 0, locals := 221 }
theorem nk_X11_isFine : MNk yX11_isFine RX11 2 := ⟨rfl, by decide, by decide, by decide +kernel⟩
def L_X11_isFine_6 (F : Nat) (x1 : Int32) (x2 : Int32) (k42 : Wd → Option (Int32 × Wd)) : Nat → Wd → Int32 → Option (Int32 × Wd)
  | 0, _, _ => none
  | n + 1, w, x4 => (if x1 ≤ x4 then k42 w  else gd (inB x4 4) (gd (inB 8 16) (lt (sI w 96 8 (ishlI 1 (gI w 107 x4.toNatClampNeg))) (fun w8 => bnd (P_X11_goesOn F w8 96 x2) (fun x10 w9 => lt (x4 + 1 : Int32) (fun x11 => L_X11_isFine_6 F x1 x2 k42 n w9 x11))))))
set_option maxRecDepth 100000 in
set_option maxHeartbeats 4000000 in
theorem sL_X11_isFine_6 {X : Cx} {S : Sx} {r : Int32 × Wd} {F : Nat} {x1 : Int32} {x2 : Int32} {k42 : Wd → Option (Int32 × Wd)} (hX : Ok X S cX11_isFine RX11 4 rm_X11_isFine) (hR : HRt X S cX11_isFine .boolean r)  (hk42 : ∀ (w : Wd), k42 w = some r → V X S w 42 [(0, rf S 88)] []) : ∀ (n : Nat) (w : Wd) (x4 : Int32) , L_X11_isFine_6 F x1 x2 k42 n w x4 = some r → V X S w 6 [(0, rf S 88), (1, .int x1), (2, .int x2), (3, .int x4)] [] := by
  intro n
  induction n with
  | zero =>
    intro w x4  hP
    exact nn hP
  | succ n ih =>
    intro w x4  hP
    rw [L_X11_isFine_6] at hP
    refine V_iload_n hX dX11_isFine_6 3 rfl ?_
    refine V_iload_n hX dX11_isFine_7 1 rfl ?_
    refine V_icmp_ge (tgt := 42) hX dX11_isFine_8 (by decide) (fun hc5 => ?_) (fun hc5 => ?_)
    · replace hP := ite_t hc5 hP
      refine V_sub (lv' := [(0, rf S 88)]) [0] rfl ?_
      exact hk42 _   hP
    · replace hP := ite_f hc5 hP
      refine V_aload_n hX dX11_isFine_11 0 rfl ?_
      refine V_getF (j := 96) hX fk_X11_32 tb_88 (fun _ _ _ => rfl) dX11_isFine_12 ?_
      refine V_bipush (v := 8) hX dX11_isFine_15 (by decide) ?_
      refine V_iconst (v := 1) hX dX11_isFine_17 (by decide) ?_
      refine V_aload_n hX dX11_isFine_18 0 rfl ?_
      refine V_getF (j := 107) hX fk_X11_65 tb_88 (fun _ _ _ => rfl) dX11_isFine_19 ?_
      refine V_iload_n hX dX11_isFine_22 3 rfl ?_
      obtain ⟨hi6, hP⟩ := gd_e hP
      refine V_iald hX tb_107 hi6 dX11_isFine_23 ?_
      refine V_ishl hX dX11_isFine_24 ?_
      obtain ⟨hi7, hP⟩ := gd_e hP
      refine V_iast hX tb_96 hi7 dX11_isFine_25 (fun w8 ew8 => ?_)
      replace hP := lt_r ew8 hP
      refine V_aload_n hX dX11_isFine_26 0 rfl ?_
      refine V_aload_n hX dX11_isFine_27 0 rfl ?_
      refine V_getF (j := 96) hX fk_X11_32 tb_88 (fun _ _ _ => rfl) dX11_isFine_28 ?_
      refine V_iload_n hX dX11_isFine_31 2 rfl ?_
      obtain ⟨x10, w9, hcw9, hP⟩ := bnd_e hP
      refine V_callVi (As := [rf S 96, .int x2]) (rest := []) hX mk_X11_313 nk_X11_goesOn (fun l => c_X11_goesOn l S (by decide) hcw9) tb_88 rfl ⟨rfl, rfl, Nat.le_of_ble_eq_true rfl, Nat.le_of_ble_eq_true rfl⟩ rfl rfl (Nat.le_of_ble_eq_true rfl) dX11_isFine_32 ?_
      refine V_pop hX dX11_isFine_35 rfl ?_
      obtain ⟨x11, ex11⟩ : ∃ y : Int32, y = x4 + 1 := ⟨_, rfl⟩
      replace hP := lt_r ex11 hP
      refine V_iinc (v := x11) (lv' := [(3, .int x11), (0, rf S 88), (1, .int x1), (2, .int x2)]) hX dX11_isFine_36 (j := 3) rfl (by decide) (by rw [ex11]; rfl) rfl ?_
      refine V_goto (tgt := 6) hX dX11_isFine_39 (by decide) ?_
      refine V_sub (lv' := [(0, rf S 88), (1, .int x1), (2, .int x2), (3, .int x11)]) [1, 2, 3, 0] rfl ?_
      exact ih _ _  hP
def P_X11_isFine (F : Nat) (w : Wd) (x1 : Int32) (x2 : Int32) : Option (Int32 × Wd) := bnv (P_X11_puts F w ) (fun w3 => L_X11_isFine_6 F x1 x2 (fun w  => gd (inB 13 16) (gd (inB 13 16) (lt (if (gI w 96 13) = (gI w 95 13) then 1 else 0 : Int32) (fun x15 => gd (isZO x15) (some (x15, w)))))) F w3 0)
set_option maxRecDepth 100000 in
set_option maxHeartbeats 4000000 in
theorem s_X11_isFine {X : Cx} {S : Sx} {r : Int32 × Wd} {F : Nat} {w : Wd} {x1 : Int32} {x2 : Int32}  (hX : Ok X S cX11_isFine RX11 4 rm_X11_isFine) (hR : HRt X S cX11_isFine .boolean r) (hP : P_X11_isFine F w x1 x2 = some r) : V X S w 0 [(0, rf S 88), (1, .int x1), (2, .int x2)] [] := by
  unfold P_X11_isFine at hP
  refine V_aload_n hX dX11_isFine_0 0 rfl ?_
  obtain ⟨w3, hcw3, hP⟩ := bnv_e hP
  refine V_callVv (As := []) (rest := []) hX mk_X11_333 nk_X11_puts (fun l => c_X11_puts l S  hcw3) tb_88 rfl ⟨rfl, rfl, Nat.le_of_ble_eq_true rfl, Nat.le_of_ble_eq_true rfl⟩ rfl rfl (Nat.le_of_ble_eq_true rfl) dX11_isFine_1 ?_
  refine V_iconst (v := 0) hX dX11_isFine_4 (by decide) ?_
  refine V_istore_n (lv' := [(3, .int 0), (0, rf S 88), (1, .int x1), (2, .int x2)]) hX dX11_isFine_5 (by decide) rfl ?_
  refine V_sub (lv' := [(0, rf S 88), (1, .int x1), (2, .int x2), (3, .int 0)]) [1, 2, 3, 0] rfl ?_
  have k18 : ∀ (w : Wd)  , (gd (inB 13 16) (gd (inB 13 16) (lt (if (gI w 96 13) = (gI w 95 13) then 1 else 0 : Int32) (fun x15 => gd (isZO x15) (some (x15, w)))))) = some r → V X S w 42 [(0, rf S 88)] [] := by
    intro w   hP
    refine V_aload_n hX dX11_isFine_42 0 rfl ?_
    refine V_getF (j := 96) hX fk_X11_32 tb_88 (fun _ _ _ => rfl) dX11_isFine_43 ?_
    refine V_bipush (v := 13) hX dX11_isFine_46 (by decide) ?_
    obtain ⟨hi12, hP⟩ := gd_e hP
    refine V_iald hX tb_96 hi12 dX11_isFine_48 ?_
    refine V_aload_n hX dX11_isFine_49 0 rfl ?_
    refine V_getF (j := 95) hX fk_X11_29 tb_88 (fun _ _ _ => rfl) dX11_isFine_50 ?_
    refine V_bipush (v := 13) hX dX11_isFine_53 (by decide) ?_
    obtain ⟨hi13, hP⟩ := gd_e hP
    refine V_iald hX tb_95 hi13 dX11_isFine_55 ?_
    have k17 : V X S w 64 [(0, rf S 88)] [.int (if (gI w 96 13) = (gI w 95 13) then 1 else 0)] := by
      refine V_topi (fun x15 ex15 => ?_)
      replace hP := lt_r ex15 hP
      obtain ⟨hz16, hP⟩ := gd_e hP
      exact hR _ _ _ _ (Option.some.inj hP) (nar_z hz16) dX11_isFine_64
    refine V_icmp_ne (tgt := 63) hX dX11_isFine_56 (by decide) (fun hc14 => ?_) (fun hc14 => ?_)
    · refine V_iconst (v := 0) hX dX11_isFine_63 (by decide) ?_
      refine V_selF (c := (gI w 96 13) = (gI w 95 13)) (a := 1) hc14 ?_
      exact k17
    · refine V_iconst (v := 1) hX dX11_isFine_59 (by decide) ?_
      refine V_goto (tgt := 64) hX dX11_isFine_60 (by decide) ?_
      refine V_selT (c := (gI w 96 13) = (gI w 95 13)) (b := 0) hc14 ?_
      exact k17
  exact sL_X11_isFine_6 hX hR  k18 F _ _  hP
theorem c_X11_isFine (l : Launch) (S : Sx) {r : Int32 × Wd} {F : Nat} {w : Wd} {x1 : Int32} {x2 : Int32}  (h : P_X11_isFine F w x1 x2 = some r) : Met l yX11_isFine (wsg yX11_isFine cX11_isFine 4 (some .boolean)) rm_X11_isFine (PC S w [rf S 88, .int x1, .int x2]) (QCi S r) 0 0 (Aw S) :=
  met_i (by decide) rfl (Nat.le_of_ble_eq_true rfl) ⟨rfl, rfl⟩ (fun X hX hR => s_X11_isFine  hX hR h)

-- MustNotStopModel.costOf(IIZ)I
abbrev rm_X11_costOf : Room := { frames := 2, cells := 0, slots := 0, locals := 84 }
theorem nk_X11_costOf : MNk yX11_costOf RX11 3 := ⟨rfl, by decide, by decide, by decide +kernel⟩
def L_X11_costOf_9 (F : Nat) (x1 : Int32) (x2 : Int32) (x3 : Int32) (k54 : Wd → Int32 → Int32 → Option (Int32 × Wd)) : Nat → Wd → Int32 → Int32 → Int32 → Option (Int32 × Wd)
  | 0, _, _, _, _ => none
  | n + 1, w, x4, x5, x6 => (if x1 ≤ x6 then k54 w x4 x5 else gd (inB x6 4) (lt (x4 ||| (ishlI 1 (gI w 107 x6.toNatClampNeg)) : Int32) (fun x11 => gd (inB x6 4) (gd (inB (gI w 107 x6.toNatClampNeg) 8) (lt (x5 + (x2 * (gI w 91 (gI w 107 x6.toNatClampNeg).toNatClampNeg)) : Int32) (fun x14 => lt (x6 + 1 : Int32) (fun x15 => L_X11_costOf_9 F x1 x2 x3 k54 n w x11 x14 x15)))))))
set_option maxRecDepth 100000 in
set_option maxHeartbeats 4000000 in
theorem sL_X11_costOf_9 {X : Cx} {S : Sx} {r : Int32 × Wd} {F : Nat} {x1 : Int32} {x2 : Int32} {x3 : Int32} {k54 : Wd → Int32 → Int32 → Option (Int32 × Wd)} (hX : Ok X S cX11_costOf RX11 7 rm_X11_costOf) (hR : HRt X S cX11_costOf .int r)  (hk54 : ∀ (w : Wd) (x7 : Int32) (x8 : Int32) , k54 w x7 x8 = some r → V X S w 54 [(3, .int x3), (4, .int x7), (5, .int x8)] []) : ∀ (n : Nat) (w : Wd) (x4 : Int32) (x5 : Int32) (x6 : Int32) , L_X11_costOf_9 F x1 x2 x3 k54 n w x4 x5 x6 = some r → V X S w 9 [(0, rf S 88), (1, .int x1), (2, .int x2), (3, .int x3), (4, .int x4), (5, .int x5), (6, .int x6)] [] := by
  intro n
  induction n with
  | zero =>
    intro w x4 x5 x6  hP
    exact nn hP
  | succ n ih =>
    intro w x4 x5 x6  hP
    rw [L_X11_costOf_9] at hP
    refine V_iload hX dX11_costOf_9 6 rfl ?_
    refine V_iload_n hX dX11_costOf_11 1 rfl ?_
    refine V_icmp_ge (tgt := 54) hX dX11_costOf_12 (by decide) (fun hc9 => ?_) (fun hc9 => ?_)
    · replace hP := ite_t hc9 hP
      refine V_sub (lv' := [(3, .int x3), (4, .int x4), (5, .int x5)]) [3, 4, 5] rfl ?_
      exact hk54 _ _ _  hP
    · replace hP := ite_f hc9 hP
      refine V_iload hX dX11_costOf_15 4 rfl ?_
      refine V_iconst (v := 1) hX dX11_costOf_17 (by decide) ?_
      refine V_aload_n hX dX11_costOf_18 0 rfl ?_
      refine V_getF (j := 107) hX fk_X11_65 tb_88 (fun _ _ _ => rfl) dX11_costOf_19 ?_
      refine V_iload hX dX11_costOf_22 6 rfl ?_
      obtain ⟨hi10, hP⟩ := gd_e hP
      refine V_iald hX tb_107 hi10 dX11_costOf_24 ?_
      refine V_ishl hX dX11_costOf_25 ?_
      refine V_ior hX dX11_costOf_26 ?_
      refine V_topi (fun x11 ex11 => ?_)
      replace hP := lt_r ex11 hP
      refine V_istore (lv' := [(4, .int x11), (0, rf S 88), (1, .int x1), (2, .int x2), (3, .int x3), (5, .int x5), (6, .int x6)]) hX dX11_costOf_27 (by decide) rfl ?_
      refine V_iload hX dX11_costOf_29 5 rfl ?_
      refine V_iload_n hX dX11_costOf_31 3 rfl ?_
      refine V_aload_n hX dX11_costOf_32 1 rfl ?_
      refine V_getF (j := 91) hX fk_X11_17 tb_88 (fun _ _ _ => rfl) dX11_costOf_33 ?_
      refine V_aload_n hX dX11_costOf_36 1 rfl ?_
      refine V_getF (j := 107) hX fk_X11_65 tb_88 (fun _ _ _ => rfl) dX11_costOf_37 ?_
      refine V_iload hX dX11_costOf_40 6 rfl ?_
      obtain ⟨hi12, hP⟩ := gd_e hP
      refine V_iald hX tb_107 hi12 dX11_costOf_42 ?_
      obtain ⟨hi13, hP⟩ := gd_e hP
      refine V_iald hX tb_91 hi13 dX11_costOf_43 ?_
      refine V_imul hX dX11_costOf_44 ?_
      refine V_iadd hX dX11_costOf_45 ?_
      refine V_topi (fun x14 ex14 => ?_)
      replace hP := lt_r ex14 hP
      refine V_istore (lv' := [(5, .int x14), (4, .int x11), (0, rf S 88), (1, .int x1), (2, .int x2), (3, .int x3), (6, .int x6)]) hX dX11_costOf_46 (by decide) rfl ?_
      obtain ⟨x15, ex15⟩ : ∃ y : Int32, y = x6 + 1 := ⟨_, rfl⟩
      replace hP := lt_r ex15 hP
      refine V_iinc (v := x15) (lv' := [(6, .int x15), (5, .int x14), (4, .int x11), (0, rf S 88), (1, .int x1), (2, .int x2), (3, .int x3)]) hX dX11_costOf_48 (j := 6) rfl (by decide) (by rw [ex15]; rfl) rfl ?_
      refine V_goto (tgt := 9) hX dX11_costOf_51 (by decide) ?_
      refine V_sub (lv' := [(0, rf S 88), (1, .int x1), (2, .int x2), (3, .int x3), (4, .int x11), (5, .int x14), (6, .int x15)]) [3, 4, 5, 6, 2, 1, 0] rfl ?_
      exact ih _ _ _ _  hP
def P_X11_costOf (F : Nat) (w : Wd) (x1 : Int32) (x2 : Int32) (x3 : Int32) : Option (Int32 × Wd) := L_X11_costOf_9 F x1 x2 x3 (fun w x7 x8 => (if x3 = 0 then bnd (P_J6_bitCount_0f7a4 F w x7) (fun x18 w17 => some (x18, w17)) else some (x8, w))) F w 0 0 0
set_option maxRecDepth 100000 in
set_option maxHeartbeats 4000000 in
theorem s_X11_costOf {X : Cx} {S : Sx} {r : Int32 × Wd} {F : Nat} {w : Wd} {x1 : Int32} {x2 : Int32} {x3 : Int32}  (hX : Ok X S cX11_costOf RX11 7 rm_X11_costOf) (hR : HRt X S cX11_costOf .int r) (hP : P_X11_costOf F w x1 x2 x3 = some r) : V X S w 0 [(0, rf S 88), (1, .int x1), (2, .int x2), (3, .int x3)] [] := by
  unfold P_X11_costOf at hP
  refine V_iconst (v := 0) hX dX11_costOf_0 (by decide) ?_
  refine V_istore (lv' := [(4, .int 0), (0, rf S 88), (1, .int x1), (2, .int x2), (3, .int x3)]) hX dX11_costOf_1 (by decide) rfl ?_
  refine V_iconst (v := 0) hX dX11_costOf_3 (by decide) ?_
  refine V_istore (lv' := [(5, .int 0), (4, .int 0), (0, rf S 88), (1, .int x1), (2, .int x2), (3, .int x3)]) hX dX11_costOf_4 (by decide) rfl ?_
  refine V_iconst (v := 0) hX dX11_costOf_6 (by decide) ?_
  refine V_istore (lv' := [(6, .int 0), (5, .int 0), (4, .int 0), (0, rf S 88), (1, .int x1), (2, .int x2), (3, .int x3)]) hX dX11_costOf_7 (by decide) rfl ?_
  refine V_sub (lv' := [(0, rf S 88), (1, .int x1), (2, .int x2), (3, .int x3), (4, .int 0), (5, .int 0), (6, .int 0)]) [3, 4, 5, 6, 2, 1, 0] rfl ?_
  have k19 : ∀ (w : Wd) (x7 : Int32) (x8 : Int32) , ((if x3 = 0 then bnd (P_J6_bitCount_0f7a4 F w x7) (fun x18 w17 => some (x18, w17)) else some (x8, w))) = some r → V X S w 54 [(3, .int x3), (4, .int x7), (5, .int x8)] [] := by
    intro w x7 x8  hP
    refine V_iload_n hX dX11_costOf_54 0 rfl ?_
    refine V_if_eq (tgt := 63) hX dX11_costOf_55 (by decide) (fun hc16 => ?_) (fun hc16 => ?_)
    · replace hP := ite_t hc16 hP
      refine V_iload hX dX11_costOf_63 1 rfl ?_
      obtain ⟨x18, w17, hcw17, hP⟩ := bnd_e hP
      refine V_callSi (As := [.int x7]) (rest := []) hX mk_X11_248 nk_J6_bitCount_0f7a4 (fun l => c_J6_bitCount_0f7a4 l S  hcw17) ⟨rfl, rfl, Nat.le_of_ble_eq_true rfl, Nat.le_of_ble_eq_true rfl⟩ rfl rfl (Nat.le_of_ble_eq_true rfl) dX11_costOf_65 ?_
      exact hR _ _ _ _ (Option.some.inj hP) rfl dX11_costOf_68
    · replace hP := ite_f hc16 hP
      refine V_iload hX dX11_costOf_58 2 rfl ?_
      refine V_goto (tgt := 68) hX dX11_costOf_60 (by decide) ?_
      exact hR _ _ _ _ (Option.some.inj hP) rfl dX11_costOf_68
  exact sL_X11_costOf_9 hX hR  k19 F _ _ _ _  hP
theorem c_X11_costOf (l : Launch) (S : Sx) {r : Int32 × Wd} {F : Nat} {w : Wd} {x1 : Int32} {x2 : Int32} {x3 : Int32}  (h : P_X11_costOf F w x1 x2 x3 = some r) : Met l yX11_costOf (wsg yX11_costOf cX11_costOf 7 (some .int)) rm_X11_costOf (PC S w [rf S 88, .int x1, .int x2, .int x3]) (QCi S r) 0 0 (Aw S) :=
  met_i (by decide) rfl (Nat.le_of_ble_eq_true rfl) ⟨rfl, rfl⟩ (fun X hX hR => s_X11_costOf  hX hR h)

-- MustNotStopModel.rotasFrom(IIIZ)V
theorem nk_X11_rotasFrom : MNk yX11_rotasFrom RX11 4 := ⟨rfl, by decide, by decide, by decide +kernel⟩
def L_X11_rotasFrom_72 (F : Nat) (x1 : Int32) (x2 : Int32) (x3 : Int32) (x4 : Int32) (g_X11_rotasFrom : Wd → Int32 → Int32 → Int32 → Int32 → Option (Wd)) (k106 : Wd → Option (Wd)) : Nat → Wd → Int32 → Option (Wd)
  | 0, _, _ => none
  | n + 1, w, x6 => (if (gI w 88 3) ≤ x6 then k106 w  else gd (inB x1 4) (lt (sI w 107 x1.toNatClampNeg x6) (fun w9 => bnv (g_X11_rotasFrom w9 (x1 + 1) x2 x3 x4) (fun w10 => lt (x6 + 1 : Int32) (fun x11 => L_X11_rotasFrom_72 F x1 x2 x3 x4 g_X11_rotasFrom k106 n w10 x11)))))
set_option maxRecDepth 100000 in
set_option maxHeartbeats 4000000 in
theorem sL_X11_rotasFrom_72 {X : Cx} {S : Sx} {rm rmc : Room} {r : Wd} {F : Nat} {x1 : Int32} {x2 : Int32} {x3 : Int32} {x4 : Int32} {g_X11_rotasFrom : Wd → Int32 → Int32 → Int32 → Int32 → Option (Wd)} {k106 : Wd → Option (Wd)} (hX : Ok X S cX11_rotasFrom RX11 7 rm) (hR : HRv X S cX11_rotasFrom r ∧ RMr rm rmc)  (hg_X11_rotasFrom : ∀ (l : Launch) (w : Wd) (x1 : Int32) (x2 : Int32) (x3 : Int32) (x4 : Int32) (r : Wd) , g_X11_rotasFrom w x1 x2 x3 x4 = some r → Met l yX11_rotasFrom (wsg yX11_rotasFrom cX11_rotasFrom 7 none) rmc (PC S w [rf S 88, .int x1, .int x2, .int x3, .int x4]) (QCv S r) 0 0 (Aw S)) (hk106 : ∀ (w : Wd), k106 w = some r → V X S w 106 [] []) : ∀ (n : Nat) (w : Wd) (x6 : Int32) , L_X11_rotasFrom_72 F x1 x2 x3 x4 g_X11_rotasFrom k106 n w x6 = some r → V X S w 72 [(0, rf S 88), (1, .int x1), (2, .int x2), (3, .int x3), (4, .int x4), (5, .int x6)] [] := by
  intro n
  induction n with
  | zero =>
    intro w x6  hP
    exact nn hP
  | succ n ih =>
    intro w x6  hP
    rw [L_X11_rotasFrom_72] at hP
    refine V_iload hX dX11_rotasFrom_72 5 rfl ?_
    refine V_aload_n hX dX11_rotasFrom_74 0 rfl ?_
    refine V_getI hX fk_X11_113 tb_88 (fun _ _ _ => rfl) dX11_rotasFrom_75 ?_
    refine V_icmp_ge (tgt := 106) hX dX11_rotasFrom_78 (by decide) (fun hc7 => ?_) (fun hc7 => ?_)
    · replace hP := ite_t hc7 hP
      refine V_sub (lv' := []) [] rfl ?_
      exact hk106 _   hP
    · replace hP := ite_f hc7 hP
      refine V_aload_n hX dX11_rotasFrom_81 0 rfl ?_
      refine V_getF (j := 107) hX fk_X11_65 tb_88 (fun _ _ _ => rfl) dX11_rotasFrom_82 ?_
      refine V_iload_n hX dX11_rotasFrom_85 1 rfl ?_
      refine V_iload hX dX11_rotasFrom_86 5 rfl ?_
      obtain ⟨hi8, hP⟩ := gd_e hP
      refine V_iast hX tb_107 hi8 dX11_rotasFrom_88 (fun w9 ew9 => ?_)
      replace hP := lt_r ew9 hP
      refine V_aload_n hX dX11_rotasFrom_89 0 rfl ?_
      refine V_iload_n hX dX11_rotasFrom_90 1 rfl ?_
      refine V_iconst (v := 1) hX dX11_rotasFrom_91 (by decide) ?_
      refine V_iadd hX dX11_rotasFrom_92 ?_
      refine V_iload_n hX dX11_rotasFrom_93 2 rfl ?_
      refine V_iload_n hX dX11_rotasFrom_94 3 rfl ?_
      refine V_iload hX dX11_rotasFrom_95 4 rfl ?_
      obtain ⟨w10, hcw10, hP⟩ := bnv_e hP
      refine V_callVv (As := [.int (x1 + 1), .int x2, .int x3, .int x4]) (rest := []) hX mk_X11_358 nk_X11_rotasFrom (fun l => hg_X11_rotasFrom l _ _ _ _ _ _  hcw10) tb_88 rfl (rm_rec hR.2 (Nat.le_of_ble_eq_true rfl)) rfl rfl (Nat.le_of_ble_eq_true rfl) dX11_rotasFrom_97 ?_
      obtain ⟨x11, ex11⟩ : ∃ y : Int32, y = x6 + 1 := ⟨_, rfl⟩
      replace hP := lt_r ex11 hP
      refine V_iinc (v := x11) (lv' := [(5, .int x11), (0, rf S 88), (1, .int x1), (2, .int x2), (3, .int x3), (4, .int x4)]) hX dX11_rotasFrom_100 (j := 5) rfl (by decide) (by rw [ex11]; rfl) rfl ?_
      refine V_goto (tgt := 72) hX dX11_rotasFrom_103 (by decide) ?_
      refine V_sub (lv' := [(0, rf S 88), (1, .int x1), (2, .int x2), (3, .int x3), (4, .int x4), (5, .int x11)]) [1, 2, 3, 4, 5, 0] rfl ?_
      exact ih _ _  hP
def L_X11_rotasFrom_42 (F : Nat) (x1 : Int32) (x2 : Int32) (x3 : Int32) (x4 : Int32) (g_X11_rotasFrom : Wd → Int32 → Int32 → Int32 → Int32 → Option (Wd)) (k68 : Wd → Option (Wd)) : Nat → Wd → Int32 → Option (Wd)
  | 0, _, _ => none
  | n + 1, w, x20 => (if x2 ≤ x20 then k68 w  else gd (inB x20 4) (gd (inB x20 4) (lt (sI w 108 x20.toNatClampNeg (gI w 107 x20.toNatClampNeg)) (fun w24 => lt (x20 + 1 : Int32) (fun x25 => L_X11_rotasFrom_42 F x1 x2 x3 x4 g_X11_rotasFrom k68 n w24 x25)))))
set_option maxRecDepth 100000 in
set_option maxHeartbeats 4000000 in
theorem sL_X11_rotasFrom_42 {X : Cx} {S : Sx} {rm rmc : Room} {r : Wd} {F : Nat} {x1 : Int32} {x2 : Int32} {x3 : Int32} {x4 : Int32} {g_X11_rotasFrom : Wd → Int32 → Int32 → Int32 → Int32 → Option (Wd)} {k68 : Wd → Option (Wd)} (hX : Ok X S cX11_rotasFrom RX11 7 rm) (hR : HRv X S cX11_rotasFrom r ∧ RMr rm rmc)  (hg_X11_rotasFrom : ∀ (l : Launch) (w : Wd) (x1 : Int32) (x2 : Int32) (x3 : Int32) (x4 : Int32) (r : Wd) , g_X11_rotasFrom w x1 x2 x3 x4 = some r → Met l yX11_rotasFrom (wsg yX11_rotasFrom cX11_rotasFrom 7 none) rmc (PC S w [rf S 88, .int x1, .int x2, .int x3, .int x4]) (QCv S r) 0 0 (Aw S)) (hk68 : ∀ (w : Wd), k68 w = some r → V X S w 68 [] []) : ∀ (n : Nat) (w : Wd) (x20 : Int32) , L_X11_rotasFrom_42 F x1 x2 x3 x4 g_X11_rotasFrom k68 n w x20 = some r → V X S w 42 [(0, rf S 88), (2, .int x2), (6, .int x20), (1, .int x1), (3, .int x3), (4, .int x4)] [] := by
  intro n
  induction n with
  | zero =>
    intro w x20  hP
    exact nn hP
  | succ n ih =>
    intro w x20  hP
    rw [L_X11_rotasFrom_42] at hP
    refine V_iload hX dX11_rotasFrom_42 2 rfl ?_
    refine V_iload_n hX dX11_rotasFrom_44 1 rfl ?_
    refine V_icmp_ge (tgt := 68) hX dX11_rotasFrom_45 (by decide) (fun hc21 => ?_) (fun hc21 => ?_)
    · replace hP := ite_t hc21 hP
      refine V_sub (lv' := []) [] rfl ?_
      exact hk68 _   hP
    · replace hP := ite_f hc21 hP
      refine V_aload_n hX dX11_rotasFrom_48 0 rfl ?_
      refine V_getF (j := 108) hX fk_X11_68 tb_88 (fun _ _ _ => rfl) dX11_rotasFrom_49 ?_
      refine V_iload hX dX11_rotasFrom_52 2 rfl ?_
      refine V_aload_n hX dX11_rotasFrom_54 0 rfl ?_
      refine V_getF (j := 107) hX fk_X11_65 tb_88 (fun _ _ _ => rfl) dX11_rotasFrom_55 ?_
      refine V_iload hX dX11_rotasFrom_58 2 rfl ?_
      obtain ⟨hi22, hP⟩ := gd_e hP
      refine V_iald hX tb_107 hi22 dX11_rotasFrom_60 ?_
      obtain ⟨hi23, hP⟩ := gd_e hP
      refine V_iast hX tb_108 hi23 dX11_rotasFrom_61 (fun w24 ew24 => ?_)
      replace hP := lt_r ew24 hP
      obtain ⟨x25, ex25⟩ : ∃ y : Int32, y = x20 + 1 := ⟨_, rfl⟩
      replace hP := lt_r ex25 hP
      refine V_iinc (v := x25) (lv' := [(6, .int x25), (0, rf S 88), (2, .int x2), (1, .int x1), (3, .int x3), (4, .int x4)]) hX dX11_rotasFrom_62 (j := 2) rfl (by decide) (by rw [ex25]; rfl) rfl ?_
      refine V_goto (tgt := 42) hX dX11_rotasFrom_65 (by decide) ?_
      refine V_sub (lv' := [(0, rf S 88), (2, .int x2), (6, .int x25), (1, .int x1), (3, .int x3), (4, .int x4)]) [1, 2, 0, 3, 4, 5] rfl ?_
      exact ih _ _  hP
def B_X11_rotasFrom (F : Nat) (g_X11_rotasFrom : Wd → Int32 → Int32 → Int32 → Int32 → Option (Wd)) (w : Wd) (x1 : Int32) (x2 : Int32) (x3 : Int32) (x4 : Int32) : Option (Wd) := (if x1 = x2 then bnd (P_X11_costOf F w x2 x3 x4) (fun x14 w13 => (if (gI w13 88 34) ≤ x14 then some w13 else bnd (P_X11_isFine F w13 x2 x3) (fun x17 w16 => (if x17 = 0 then some w16 else lt (sI w16 88 34 x14) (fun w19 => L_X11_rotasFrom_42 F x1 x2 x3 x4 g_X11_rotasFrom (fun w  => some w) F w19 0))))) else L_X11_rotasFrom_72 F x1 x2 x3 x4 g_X11_rotasFrom (fun w  => some w) F w 0)
set_option maxRecDepth 100000 in
set_option maxHeartbeats 4000000 in
theorem s_X11_rotasFrom {X : Cx} {S : Sx} {rm rmc : Room} {r : Wd} {F : Nat} {g_X11_rotasFrom : Wd → Int32 → Int32 → Int32 → Int32 → Option (Wd)} {w : Wd} {x1 : Int32} {x2 : Int32} {x3 : Int32} {x4 : Int32}  (hX : Ok X S cX11_rotasFrom RX11 7 rm) (hR : HRv X S cX11_rotasFrom r ∧ RMr rm rmc) (hg_X11_rotasFrom : ∀ (l : Launch) (w : Wd) (x1 : Int32) (x2 : Int32) (x3 : Int32) (x4 : Int32) (r : Wd) , g_X11_rotasFrom w x1 x2 x3 x4 = some r → Met l yX11_rotasFrom (wsg yX11_rotasFrom cX11_rotasFrom 7 none) rmc (PC S w [rf S 88, .int x1, .int x2, .int x3, .int x4]) (QCv S r) 0 0 (Aw S)) (hP : B_X11_rotasFrom F g_X11_rotasFrom w x1 x2 x3 x4 = some r) : V X S w 0 [(0, rf S 88), (1, .int x1), (2, .int x2), (3, .int x3), (4, .int x4)] [] := by
  unfold B_X11_rotasFrom at hP
  refine V_iload_n hX dX11_rotasFrom_0 1 rfl ?_
  refine V_iload_n hX dX11_rotasFrom_1 2 rfl ?_
  refine V_icmp_ne (tgt := 69) hX dX11_rotasFrom_2 (by decide) (fun hc5 => ?_) (fun hc5 => ?_)
  · replace hP := ite_f hc5 hP
    refine V_iconst (v := 0) hX dX11_rotasFrom_69 (by decide) ?_
    refine V_istore (lv' := [(5, .int 0), (0, rf S 88), (1, .int x1), (2, .int x2), (3, .int x3), (4, .int x4)]) hX dX11_rotasFrom_70 (by decide) rfl ?_
    refine V_sub (lv' := [(0, rf S 88), (1, .int x1), (2, .int x2), (3, .int x3), (4, .int x4), (5, .int 0)]) [1, 2, 3, 4, 5, 0] rfl ?_
    have k12 : ∀ (w : Wd)  , (some w) = some r → V X S w 106 [] [] := by
      intro w   hP
      exact hR.1 _ _ _ (Option.some.inj hP) dX11_rotasFrom_106
    exact sL_X11_rotasFrom_72 hX hR  hg_X11_rotasFrom k12 F _ _  hP
  · replace hP := ite_t hc5 hP
    refine V_aload_n hX dX11_rotasFrom_5 0 rfl ?_
    refine V_iload_n hX dX11_rotasFrom_6 2 rfl ?_
    refine V_iload_n hX dX11_rotasFrom_7 3 rfl ?_
    refine V_iload hX dX11_rotasFrom_8 4 rfl ?_
    obtain ⟨x14, w13, hcw13, hP⟩ := bnd_e hP
    refine V_callVi (As := [.int x2, .int x3, .int x4]) (rest := []) hX mk_X11_349 nk_X11_costOf (fun l => c_X11_costOf l S  hcw13) tb_88 rfl (rm_call hR.2 rfl rfl (Nat.le_of_ble_eq_true rfl) (Nat.le_of_ble_eq_true rfl)) rfl rfl (Nat.le_of_ble_eq_true rfl) dX11_rotasFrom_10 ?_
    refine V_istore (lv' := [(5, .int x14), (0, rf S 88), (1, .int x1), (2, .int x2), (3, .int x3), (4, .int x4)]) hX dX11_rotasFrom_13 (by decide) rfl ?_
    refine V_iload hX dX11_rotasFrom_15 0 rfl ?_
    refine V_aload_n hX dX11_rotasFrom_17 1 rfl ?_
    refine V_getI hX fk_X11_352 tb_88 (fun _ _ _ => rfl) dX11_rotasFrom_18 ?_
    refine V_icmp_ge (tgt := 68) hX dX11_rotasFrom_21 (by decide) (fun hc15 => ?_) (fun hc15 => ?_)
    · replace hP := ite_t hc15 hP
      exact hR.1 _ _ _ (Option.some.inj hP) dX11_rotasFrom_68
    · replace hP := ite_f hc15 hP
      refine V_aload_n hX dX11_rotasFrom_24 1 rfl ?_
      refine V_iload_n hX dX11_rotasFrom_25 3 rfl ?_
      refine V_iload_n hX dX11_rotasFrom_26 4 rfl ?_
      obtain ⟨x17, w16, hcw16, hP⟩ := bnd_e hP
      refine V_callVi (As := [.int x2, .int x3]) (rest := []) hX mk_X11_355 nk_X11_isFine (fun l => c_X11_isFine l S  hcw16) tb_88 rfl (rm_call hR.2 rfl rfl (Nat.le_of_ble_eq_true rfl) (Nat.le_of_ble_eq_true rfl)) rfl rfl (Nat.le_of_ble_eq_true rfl) dX11_rotasFrom_27 ?_
      refine V_if_eq (tgt := 68) hX dX11_rotasFrom_30 (by decide) (fun hc18 => ?_) (fun hc18 => ?_)
      · replace hP := ite_t hc18 hP
        exact hR.1 _ _ _ (Option.some.inj hP) dX11_rotasFrom_68
      · replace hP := ite_f hc18 hP
        refine V_aload_n hX dX11_rotasFrom_33 1 rfl ?_
        refine V_iload hX dX11_rotasFrom_34 0 rfl ?_
        refine V_putI hX fw_X11_352 tb_88 (fun _ _ _ => ⟨Nat.le_of_ble_eq_true rfl, rfl⟩) dX11_rotasFrom_36 (fun w19 ew19 => ?_)
        replace hP := lt_r ew19 hP
        refine V_iconst (v := 0) hX dX11_rotasFrom_39 (by decide) ?_
        refine V_istore (lv' := [(6, .int 0), (5, .int x14), (0, rf S 88), (1, .int x1), (2, .int x2), (3, .int x3), (4, .int x4)]) hX dX11_rotasFrom_40 (by decide) rfl ?_
        refine V_sub (lv' := [(0, rf S 88), (2, .int x2), (6, .int 0), (1, .int x1), (3, .int x3), (4, .int x4)]) [2, 4, 0, 3, 5, 6] rfl ?_
        have k26 : ∀ (w : Wd)  , (some w) = some r → V X S w 68 [] [] := by
          intro w   hP
          exact hR.1 _ _ _ (Option.some.inj hP) dX11_rotasFrom_68
        exact sL_X11_rotasFrom_42 hX hR  hg_X11_rotasFrom k26 F _ _  hP
def D_rotas (F : Nat) : Nat → (Wd → Int32 → Int32 → Int32 → Int32 → Option (Wd))
  | 0 => (fun _ _ _ _ _ => none)
  | n + 1 => (fun w x1 x2 x3 x4 => B_X11_rotasFrom F (D_rotas F n) w x1 x2 x3 x4)
set_option maxRecDepth 100000 in
set_option maxHeartbeats 4000000 in
theorem cD_rotas (S : Sx) (F : Nat) : ∀ n : Nat, (∀ (l : Launch) (w : Wd) (x1 : Int32) (x2 : Int32) (x3 : Int32) (x4 : Int32) (r : Wd) , (D_rotas F n) w x1 x2 x3 x4 = some r → Met l yX11_rotasFrom (wsg yX11_rotasFrom cX11_rotasFrom 7 none) (rmD n) (PC S w [rf S 88, .int x1, .int x2, .int x3, .int x4]) (QCv S r) 0 0 (Aw S)) := by
  intro n
  induction n with
  | zero => exact fun _ _ _ _ _ _ _ h => nn h
  | succ n ih =>
    have ih0 := ih
    intro l w x1 x2 x3 x4 r  h
    exact met_v (by decide) rfl (Nat.le_of_ble_eq_true rfl) ⟨rfl, rfl⟩ (fun X hX hR => s_X11_rotasFrom (F := F)  hX ⟨hR, rmD_r n⟩ ih0 h)
abbrev rm_X11_rotasFrom : Room := { frames := 150, cells := 0, slots := 0, locals := 13500 }
def P_X11_rotasFrom (F : Nat) (w : Wd) (x1 : Int32) (x2 : Int32) (x3 : Int32) (x4 : Int32) : Option (Wd) := (D_rotas F 100) w x1 x2 x3 x4
theorem c_X11_rotasFrom (l : Launch) (S : Sx) {r : Wd} {F : Nat} {w : Wd} {x1 : Int32} {x2 : Int32} {x3 : Int32} {x4 : Int32}  (h : P_X11_rotasFrom F w x1 x2 x3 x4 = some r) : Met l yX11_rotasFrom (wsg yX11_rotasFrom cX11_rotasFrom 7 none) rm_X11_rotasFrom (PC S w [rf S 88, .int x1, .int x2, .int x3, .int x4]) (QCv S r) 0 0 (Aw S) := (cD_rotas S F 100) l w x1 x2 x3 x4 r  h
