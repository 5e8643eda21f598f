-- ===== constructors =====
def bk_X1 (ca : Nat → ClassId) (h0 : Nat) (u : Nat → Nat) : va_W := [(h0, .inr (3, [.ref (u 0), .int 0, .int 50, .int 0, .int 0, .int 0, .int 0, .int 0, .int 0])), ((u 0), .inl (ca 0, 8, .inl (fun _ => 0)))]
abbrev rmI_X1 : Room := { frames := 1, cells := 1, slots := 8, locals := 12 }
set_option maxRecDepth 100000 in
set_option maxHeartbeats 8000000 in
theorem c_X1_init (G : va_G) (ca : Nat → ClassId) (h0 sz : Nat) (l : Launch) : Met l yX1_init (wsg yX1_init cX1_init 1 none) rmI_X1 (PZ G ca h0 (.inr (3, [.null, .int 0, .int 0, .int 0, .int 0, .int 0, .int 0, .int 0, .int 0])) [.ref h0] sz) (QZ G h0 (.inr (3, [.null, .int 0, .int 0, .int 0, .int 0, .int 0, .int 0, .int 0, .int 0])) sz (bk_X1 ca h0)) 1 8 (va_A [(h0, .inr (3, [.null, .int 0, .int 0, .int 0, .int 0, .int 0, .int 0, .int 0, .int 0]))] sz) := by
  refine zmet (by decide) rfl rfl (Nat.le_of_ble_eq_true rfl) (fun X A hX hI hR => ?_)
  show Z X G A 0 0 [(h0, .inr (3, [.null, .int 0, .int 0, .int 0, .int 0, .int 0, .int 0, .int 0, .int 0]))] 0 [(0, .ref h0)] []
  refine Z_aload_n hX dX1_init_0 0 rfl ?_
  refine Z_objInit hX ob_X1 ⟨Nat.le_of_ble_eq_true rfl, Nat.le_of_ble_eq_true rfl⟩ dX1_init_1 ?_
  refine Z_aload_n hX dX1_init_4 0 rfl ?_
  refine Z_bipush (v := 8) hX dX1_init_5 (by decide) ?_
  refine Z_newa (at0 := .int) (i := 0) (n := 8) (a0 := (8, .inl (fun _ => 0))) hX rfl ac_int rfl (fun _ => rfl) ⟨by decide, by decide, Nat.le_of_ble_eq_true rfl⟩ ⟨Nat.le_of_ble_eq_true rfl, Nat.le_of_ble_eq_true rfl⟩ dX1_init_7 (fun q1 => ?_)
  show Z X G A 1 8 ((h0, .inr (3, [.null, .int 0, .int 0, .int 0, .int 0, .int 0, .int 0, .int 0, .int 0])) :: (q1, .inl (ca 0, 8, .inl (fun _ => 0))) :: []) 9 [(0, .ref h0)] [.ref q1, .ref h0]
  refine Z_putF 0 hX hI ff_X1_9 rfl ⟨rfl, rfl, Nat.le_of_ble_eq_true rfl⟩ dX1_init_9 ?_
  show Z X G A 1 8 ((h0, .inr (3, [.ref q1, .int 0, .int 0, .int 0, .int 0, .int 0, .int 0, .int 0, .int 0])) :: (q1, .inl (ca 0, 8, .inl (fun _ => 0))) :: []) 12 [(0, .ref h0)] []
  refine Z_aload_n hX dX1_init_12 0 rfl ?_
  refine Z_iconst (v := 0) hX dX1_init_13 (by decide) ?_
  refine Z_put 0 hX fw_X1_15 rfl ⟨rfl, rfl, Nat.le_of_ble_eq_true rfl⟩ dX1_init_14 ?_
  show Z X G A 1 8 ((h0, .inr (3, [.ref q1, .int 0, .int 0, .int 0, .int 0, .int 0, .int 0, .int 0, .int 0])) :: (q1, .inl (ca 0, 8, .inl (fun _ => 0))) :: []) 17 [(0, .ref h0)] []
  refine Z_aload_n hX dX1_init_17 0 rfl ?_
  refine Z_bipush (v := 50) hX dX1_init_18 (by decide) ?_
  refine Z_put 0 hX fw_X1_19 rfl ⟨rfl, rfl, Nat.le_of_ble_eq_true rfl⟩ dX1_init_20 ?_
  show Z X G A 1 8 ((h0, .inr (3, [.ref q1, .int 0, .int 50, .int 0, .int 0, .int 0, .int 0, .int 0, .int 0])) :: (q1, .inl (ca 0, 8, .inl (fun _ => 0))) :: []) 23 [(0, .ref h0)] []
  refine Z_aload_n hX dX1_init_23 0 rfl ?_
  refine Z_iconst (v := 0) hX dX1_init_24 (by decide) ?_
  refine Z_put 0 hX fw_X1_22 rfl ⟨rfl, rfl, Nat.le_of_ble_eq_true rfl⟩ dX1_init_25 ?_
  show Z X G A 1 8 ((h0, .inr (3, [.ref q1, .int 0, .int 50, .int 0, .int 0, .int 0, .int 0, .int 0, .int 0])) :: (q1, .inl (ca 0, 8, .inl (fun _ => 0))) :: []) 28 [(0, .ref h0)] []
  refine Z_aload_n hX dX1_init_28 0 rfl ?_
  refine Z_iconst (v := 0) hX dX1_init_29 (by decide) ?_
  refine Z_put 0 hX fw_X1_25 rfl ⟨rfl, rfl, Nat.le_of_ble_eq_true rfl⟩ dX1_init_30 ?_
  show Z X G A 1 8 ((h0, .inr (3, [.ref q1, .int 0, .int 50, .int 0, .int 0, .int 0, .int 0, .int 0, .int 0])) :: (q1, .inl (ca 0, 8, .inl (fun _ => 0))) :: []) 33 [(0, .ref h0)] []
  refine Z_aload_n hX dX1_init_33 0 rfl ?_
  refine Z_iconst (v := 0) hX dX1_init_34 (by decide) ?_
  refine Z_put 0 hX fw_X1_28 rfl ⟨rfl, rfl, Nat.le_of_ble_eq_true rfl⟩ dX1_init_35 ?_
  show Z X G A 1 8 ((h0, .inr (3, [.ref q1, .int 0, .int 50, .int 0, .int 0, .int 0, .int 0, .int 0, .int 0])) :: (q1, .inl (ca 0, 8, .inl (fun _ => 0))) :: []) 38 [(0, .ref h0)] []
  refine Z_aload_n hX dX1_init_38 0 rfl ?_
  refine Z_iconst (v := 0) hX dX1_init_39 (by decide) ?_
  refine Z_put 0 hX fw_X1_31 rfl ⟨rfl, rfl, Nat.le_of_ble_eq_true rfl⟩ dX1_init_40 ?_
  show Z X G A 1 8 ((h0, .inr (3, [.ref q1, .int 0, .int 50, .int 0, .int 0, .int 0, .int 0, .int 0, .int 0])) :: (q1, .inl (ca 0, 8, .inl (fun _ => 0))) :: []) 43 [(0, .ref h0)] []
  refine Z_aload_n hX dX1_init_43 0 rfl ?_
  refine Z_iconst (v := 0) hX dX1_init_44 (by decide) ?_
  refine Z_put 0 hX fw_X1_34 rfl ⟨rfl, rfl, Nat.le_of_ble_eq_true rfl⟩ dX1_init_45 ?_
  show Z X G A 1 8 ((h0, .inr (3, [.ref q1, .int 0, .int 50, .int 0, .int 0, .int 0, .int 0, .int 0, .int 0])) :: (q1, .inl (ca 0, 8, .inl (fun _ => 0))) :: []) 48 [(0, .ref h0)] []
  refine Z_aload_n hX dX1_init_48 0 rfl ?_
  refine Z_iconst (v := 0) hX dX1_init_49 (by decide) ?_
  refine Z_put 0 hX fw_X1_37 rfl ⟨rfl, rfl, Nat.le_of_ble_eq_true rfl⟩ dX1_init_50 ?_
  show Z X G A 1 8 ((h0, .inr (3, [.ref q1, .int 0, .int 50, .int 0, .int 0, .int 0, .int 0, .int 0, .int 0])) :: (q1, .inl (ca 0, 8, .inl (fun _ => 0))) :: []) 53 [(0, .ref h0)] []
  exact hR (fun i => [q1].getD i 0) 53 _ dX1_init_53
def bk_X2 (ca : Nat → ClassId) (h0 : Nat) (u : Nat → Nat) : va_W := [(h0, .inr (4, [.ref (u 0), .int 0, .ref (u 1), .ref (u 2), .ref (u 3), .int 0, .int 0, .int 0, .int 0, .int 0])), ((u 0), .inl (ca 0, 40, .inl (fun _ => 0))), ((u 1), .inl (ca 0, 7, .inl (fun _ => 0))), ((u 2), .inl (ca 0, 41, .inl (fun _ => 0))), ((u 3), .inl (ca 0, 40, .inl (fun _ => 0)))]
abbrev rmI_X2 : Room := { frames := 1, cells := 4, slots := 128, locals := 12 }
set_option maxRecDepth 100000 in
set_option maxHeartbeats 8000000 in
theorem c_X2_init (G : va_G) (ca : Nat → ClassId) (h0 sz : Nat) (l : Launch) : Met l yX2_init (wsg yX2_init cX2_init 1 none) rmI_X2 (PZ G ca h0 (.inr (4, [.null, .int 0, .null, .null, .null, .int 0, .int 0, .int 0, .int 0, .int 0])) [.ref h0] sz) (QZ G h0 (.inr (4, [.null, .int 0, .null, .null, .null, .int 0, .int 0, .int 0, .int 0, .int 0])) sz (bk_X2 ca h0)) 4 128 (va_A [(h0, .inr (4, [.null, .int 0, .null, .null, .null, .int 0, .int 0, .int 0, .int 0, .int 0]))] sz) := by
  refine zmet (by decide) rfl rfl (Nat.le_of_ble_eq_true rfl) (fun X A hX hI hR => ?_)
  show Z X G A 0 0 [(h0, .inr (4, [.null, .int 0, .null, .null, .null, .int 0, .int 0, .int 0, .int 0, .int 0]))] 0 [(0, .ref h0)] []
  refine Z_aload_n hX dX2_init_0 0 rfl ?_
  refine Z_objInit hX ob_X2 ⟨Nat.le_of_ble_eq_true rfl, Nat.le_of_ble_eq_true rfl⟩ dX2_init_1 ?_
  refine Z_aload_n hX dX2_init_4 0 rfl ?_
  refine Z_bipush (v := 40) hX dX2_init_5 (by decide) ?_
  refine Z_newa (at0 := .int) (i := 0) (n := 40) (a0 := (40, .inl (fun _ => 0))) hX rfl ac_int rfl (fun _ => rfl) ⟨by decide, by decide, Nat.le_of_ble_eq_true rfl⟩ ⟨Nat.le_of_ble_eq_true rfl, Nat.le_of_ble_eq_true rfl⟩ dX2_init_7 (fun q1 => ?_)
  show Z X G A 1 40 ((h0, .inr (4, [.null, .int 0, .null, .null, .null, .int 0, .int 0, .int 0, .int 0, .int 0])) :: (q1, .inl (ca 0, 40, .inl (fun _ => 0))) :: []) 9 [(0, .ref h0)] [.ref q1, .ref h0]
  refine Z_putF 0 hX hI ff_X2_9 rfl ⟨rfl, rfl, Nat.le_of_ble_eq_true rfl⟩ dX2_init_9 ?_
  show Z X G A 1 40 ((h0, .inr (4, [.ref q1, .int 0, .null, .null, .null, .int 0, .int 0, .int 0, .int 0, .int 0])) :: (q1, .inl (ca 0, 40, .inl (fun _ => 0))) :: []) 12 [(0, .ref h0)] []
  refine Z_aload_n hX dX2_init_12 0 rfl ?_
  refine Z_iconst (v := 0) hX dX2_init_13 (by decide) ?_
  refine Z_put 0 hX fw_X2_15 rfl ⟨rfl, rfl, Nat.le_of_ble_eq_true rfl⟩ dX2_init_14 ?_
  show Z X G A 1 40 ((h0, .inr (4, [.ref q1, .int 0, .null, .null, .null, .int 0, .int 0, .int 0, .int 0, .int 0])) :: (q1, .inl (ca 0, 40, .inl (fun _ => 0))) :: []) 17 [(0, .ref h0)] []
  refine Z_aload_n hX dX2_init_17 0 rfl ?_
  refine Z_bipush (v := 7) hX dX2_init_18 (by decide) ?_
  refine Z_newa (at0 := .int) (i := 0) (n := 7) (a0 := (7, .inl (fun _ => 0))) hX rfl ac_int rfl (fun _ => rfl) ⟨by decide, by decide, Nat.le_of_ble_eq_true rfl⟩ ⟨Nat.le_of_ble_eq_true rfl, Nat.le_of_ble_eq_true rfl⟩ dX2_init_20 (fun q2 => ?_)
  show Z X G A 2 47 ((h0, .inr (4, [.ref q1, .int 0, .null, .null, .null, .int 0, .int 0, .int 0, .int 0, .int 0])) :: (q1, .inl (ca 0, 40, .inl (fun _ => 0))) :: (q2, .inl (ca 0, 7, .inl (fun _ => 0))) :: []) 22 [(0, .ref h0)] [.ref q2, .ref h0]
  refine Z_putF 0 hX hI ff_X2_19 rfl ⟨rfl, rfl, Nat.le_of_ble_eq_true rfl⟩ dX2_init_22 ?_
  show Z X G A 2 47 ((h0, .inr (4, [.ref q1, .int 0, .ref q2, .null, .null, .int 0, .int 0, .int 0, .int 0, .int 0])) :: (q1, .inl (ca 0, 40, .inl (fun _ => 0))) :: (q2, .inl (ca 0, 7, .inl (fun _ => 0))) :: []) 25 [(0, .ref h0)] []
  refine Z_aload_n hX dX2_init_25 0 rfl ?_
  refine Z_bipush (v := 41) hX dX2_init_26 (by decide) ?_
  refine Z_newa (at0 := .int) (i := 0) (n := 41) (a0 := (41, .inl (fun _ => 0))) hX rfl ac_int rfl (fun _ => rfl) ⟨by decide, by decide, Nat.le_of_ble_eq_true rfl⟩ ⟨Nat.le_of_ble_eq_true rfl, Nat.le_of_ble_eq_true rfl⟩ dX2_init_28 (fun q3 => ?_)
  show Z X G A 3 88 ((h0, .inr (4, [.ref q1, .int 0, .ref q2, .null, .null, .int 0, .int 0, .int 0, .int 0, .int 0])) :: (q1, .inl (ca 0, 40, .inl (fun _ => 0))) :: (q2, .inl (ca 0, 7, .inl (fun _ => 0))) :: (q3, .inl (ca 0, 41, .inl (fun _ => 0))) :: []) 30 [(0, .ref h0)] [.ref q3, .ref h0]
  refine Z_putF 0 hX hI ff_X2_22 rfl ⟨rfl, rfl, Nat.le_of_ble_eq_true rfl⟩ dX2_init_30 ?_
  show Z X G A 3 88 ((h0, .inr (4, [.ref q1, .int 0, .ref q2, .ref q3, .null, .int 0, .int 0, .int 0, .int 0, .int 0])) :: (q1, .inl (ca 0, 40, .inl (fun _ => 0))) :: (q2, .inl (ca 0, 7, .inl (fun _ => 0))) :: (q3, .inl (ca 0, 41, .inl (fun _ => 0))) :: []) 33 [(0, .ref h0)] []
  refine Z_aload_n hX dX2_init_33 0 rfl ?_
  refine Z_bipush (v := 40) hX dX2_init_34 (by decide) ?_
  refine Z_newa (at0 := .int) (i := 0) (n := 40) (a0 := (40, .inl (fun _ => 0))) hX rfl ac_int rfl (fun _ => rfl) ⟨by decide, by decide, Nat.le_of_ble_eq_true rfl⟩ ⟨Nat.le_of_ble_eq_true rfl, Nat.le_of_ble_eq_true rfl⟩ dX2_init_36 (fun q4 => ?_)
  show Z X G A 4 128 ((h0, .inr (4, [.ref q1, .int 0, .ref q2, .ref q3, .null, .int 0, .int 0, .int 0, .int 0, .int 0])) :: (q1, .inl (ca 0, 40, .inl (fun _ => 0))) :: (q2, .inl (ca 0, 7, .inl (fun _ => 0))) :: (q3, .inl (ca 0, 41, .inl (fun _ => 0))) :: (q4, .inl (ca 0, 40, .inl (fun _ => 0))) :: []) 38 [(0, .ref h0)] [.ref q4, .ref h0]
  refine Z_putF 0 hX hI ff_X2_25 rfl ⟨rfl, rfl, Nat.le_of_ble_eq_true rfl⟩ dX2_init_38 ?_
  show Z X G A 4 128 ((h0, .inr (4, [.ref q1, .int 0, .ref q2, .ref q3, .ref q4, .int 0, .int 0, .int 0, .int 0, .int 0])) :: (q1, .inl (ca 0, 40, .inl (fun _ => 0))) :: (q2, .inl (ca 0, 7, .inl (fun _ => 0))) :: (q3, .inl (ca 0, 41, .inl (fun _ => 0))) :: (q4, .inl (ca 0, 40, .inl (fun _ => 0))) :: []) 41 [(0, .ref h0)] []
  refine Z_aload_n hX dX2_init_41 0 rfl ?_
  refine Z_iconst (v := 0) hX dX2_init_42 (by decide) ?_
  refine Z_put 0 hX fw_X2_28 rfl ⟨rfl, rfl, Nat.le_of_ble_eq_true rfl⟩ dX2_init_43 ?_
  show Z X G A 4 128 ((h0, .inr (4, [.ref q1, .int 0, .ref q2, .ref q3, .ref q4, .int 0, .int 0, .int 0, .int 0, .int 0])) :: (q1, .inl (ca 0, 40, .inl (fun _ => 0))) :: (q2, .inl (ca 0, 7, .inl (fun _ => 0))) :: (q3, .inl (ca 0, 41, .inl (fun _ => 0))) :: (q4, .inl (ca 0, 40, .inl (fun _ => 0))) :: []) 46 [(0, .ref h0)] []
  refine Z_aload_n hX dX2_init_46 0 rfl ?_
  refine Z_iconst (v := 0) hX dX2_init_47 (by decide) ?_
  refine Z_put 0 hX fw_X2_31 rfl ⟨rfl, rfl, Nat.le_of_ble_eq_true rfl⟩ dX2_init_48 ?_
  show Z X G A 4 128 ((h0, .inr (4, [.ref q1, .int 0, .ref q2, .ref q3, .ref q4, .int 0, .int 0, .int 0, .int 0, .int 0])) :: (q1, .inl (ca 0, 40, .inl (fun _ => 0))) :: (q2, .inl (ca 0, 7, .inl (fun _ => 0))) :: (q3, .inl (ca 0, 41, .inl (fun _ => 0))) :: (q4, .inl (ca 0, 40, .inl (fun _ => 0))) :: []) 51 [(0, .ref h0)] []
  refine Z_aload_n hX dX2_init_51 0 rfl ?_
  refine Z_iconst (v := 0) hX dX2_init_52 (by decide) ?_
  refine Z_put 0 hX fw_X2_34 rfl ⟨rfl, rfl, Nat.le_of_ble_eq_true rfl⟩ dX2_init_53 ?_
  show Z X G A 4 128 ((h0, .inr (4, [.ref q1, .int 0, .ref q2, .ref q3, .ref q4, .int 0, .int 0, .int 0, .int 0, .int 0])) :: (q1, .inl (ca 0, 40, .inl (fun _ => 0))) :: (q2, .inl (ca 0, 7, .inl (fun _ => 0))) :: (q3, .inl (ca 0, 41, .inl (fun _ => 0))) :: (q4, .inl (ca 0, 40, .inl (fun _ => 0))) :: []) 56 [(0, .ref h0)] []
  refine Z_aload_n hX dX2_init_56 0 rfl ?_
  refine Z_iconst (v := 0) hX dX2_init_57 (by decide) ?_
  refine Z_put 0 hX fw_X2_37 rfl ⟨rfl, rfl, Nat.le_of_ble_eq_true rfl⟩ dX2_init_58 ?_
  show Z X G A 4 128 ((h0, .inr (4, [.ref q1, .int 0, .ref q2, .ref q3, .ref q4, .int 0, .int 0, .int 0, .int 0, .int 0])) :: (q1, .inl (ca 0, 40, .inl (fun _ => 0))) :: (q2, .inl (ca 0, 7, .inl (fun _ => 0))) :: (q3, .inl (ca 0, 41, .inl (fun _ => 0))) :: (q4, .inl (ca 0, 40, .inl (fun _ => 0))) :: []) 61 [(0, .ref h0)] []
  refine Z_aload_n hX dX2_init_61 0 rfl ?_
  refine Z_iconst (v := 0) hX dX2_init_62 (by decide) ?_
  refine Z_put 0 hX fw_X2_40 rfl ⟨rfl, rfl, Nat.le_of_ble_eq_true rfl⟩ dX2_init_63 ?_
  show Z X G A 4 128 ((h0, .inr (4, [.ref q1, .int 0, .ref q2, .ref q3, .ref q4, .int 0, .int 0, .int 0, .int 0, .int 0])) :: (q1, .inl (ca 0, 40, .inl (fun _ => 0))) :: (q2, .inl (ca 0, 7, .inl (fun _ => 0))) :: (q3, .inl (ca 0, 41, .inl (fun _ => 0))) :: (q4, .inl (ca 0, 40, .inl (fun _ => 0))) :: []) 66 [(0, .ref h0)] []
  exact hR (fun i => [q1, q2, q3, q4].getD i 0) 66 _ dX2_init_66
def bk_X5 (ca : Nat → ClassId) (h0 : Nat) (u : Nat → Nat) : va_W := [(h0, .inr (7, [.ref (u 0), .ref (u 1), .int 0])), ((u 0), .inl (ca 0, 8, .inl (fun _ => 0))), ((u 1), .inl (ca 0, 8, .inl (fun _ => 0)))]
abbrev rmI_X5 : Room := { frames := 1, cells := 2, slots := 16, locals := 12 }
set_option maxRecDepth 100000 in
set_option maxHeartbeats 8000000 in
theorem c_X5_init (G : va_G) (ca : Nat → ClassId) (h0 sz : Nat) (l : Launch) : Met l yX5_init (wsg yX5_init cX5_init 1 none) rmI_X5 (PZ G ca h0 (.inr (7, [.null, .null, .int 0])) [.ref h0] sz) (QZ G h0 (.inr (7, [.null, .null, .int 0])) sz (bk_X5 ca h0)) 2 16 (va_A [(h0, .inr (7, [.null, .null, .int 0]))] sz) := by
  refine zmet (by decide) rfl rfl (Nat.le_of_ble_eq_true rfl) (fun X A hX hI hR => ?_)
  show Z X G A 0 0 [(h0, .inr (7, [.null, .null, .int 0]))] 0 [(0, .ref h0)] []
  refine Z_aload_n hX dX5_init_0 0 rfl ?_
  refine Z_objInit hX ob_X5 ⟨Nat.le_of_ble_eq_true rfl, Nat.le_of_ble_eq_true rfl⟩ dX5_init_1 ?_
  refine Z_aload_n hX dX5_init_4 0 rfl ?_
  refine Z_bipush (v := 8) hX dX5_init_5 (by decide) ?_
  refine Z_newa (at0 := .int) (i := 0) (n := 8) (a0 := (8, .inl (fun _ => 0))) hX rfl ac_int rfl (fun _ => rfl) ⟨by decide, by decide, Nat.le_of_ble_eq_true rfl⟩ ⟨Nat.le_of_ble_eq_true rfl, Nat.le_of_ble_eq_true rfl⟩ dX5_init_7 (fun q1 => ?_)
  show Z X G A 1 8 ((h0, .inr (7, [.null, .null, .int 0])) :: (q1, .inl (ca 0, 8, .inl (fun _ => 0))) :: []) 9 [(0, .ref h0)] [.ref q1, .ref h0]
  refine Z_putF 0 hX hI ff_X5_9 rfl ⟨rfl, rfl, Nat.le_of_ble_eq_true rfl⟩ dX5_init_9 ?_
  show Z X G A 1 8 ((h0, .inr (7, [.ref q1, .null, .int 0])) :: (q1, .inl (ca 0, 8, .inl (fun _ => 0))) :: []) 12 [(0, .ref h0)] []
  refine Z_aload_n hX dX5_init_12 0 rfl ?_
  refine Z_bipush (v := 8) hX dX5_init_13 (by decide) ?_
  refine Z_newa (at0 := .int) (i := 0) (n := 8) (a0 := (8, .inl (fun _ => 0))) hX rfl ac_int rfl (fun _ => rfl) ⟨by decide, by decide, Nat.le_of_ble_eq_true rfl⟩ ⟨Nat.le_of_ble_eq_true rfl, Nat.le_of_ble_eq_true rfl⟩ dX5_init_15 (fun q2 => ?_)
  show Z X G A 2 16 ((h0, .inr (7, [.ref q1, .null, .int 0])) :: (q1, .inl (ca 0, 8, .inl (fun _ => 0))) :: (q2, .inl (ca 0, 8, .inl (fun _ => 0))) :: []) 17 [(0, .ref h0)] [.ref q2, .ref h0]
  refine Z_putF 0 hX hI ff_X5_15 rfl ⟨rfl, rfl, Nat.le_of_ble_eq_true rfl⟩ dX5_init_17 ?_
  show Z X G A 2 16 ((h0, .inr (7, [.ref q1, .ref q2, .int 0])) :: (q1, .inl (ca 0, 8, .inl (fun _ => 0))) :: (q2, .inl (ca 0, 8, .inl (fun _ => 0))) :: []) 20 [(0, .ref h0)] []
  refine Z_aload_n hX dX5_init_20 0 rfl ?_
  refine Z_iconst (v := 0) hX dX5_init_21 (by decide) ?_
  refine Z_put 0 hX fw_X5_18 rfl ⟨rfl, rfl, Nat.le_of_ble_eq_true rfl⟩ dX5_init_22 ?_
  show Z X G A 2 16 ((h0, .inr (7, [.ref q1, .ref q2, .int 0])) :: (q1, .inl (ca 0, 8, .inl (fun _ => 0))) :: (q2, .inl (ca 0, 8, .inl (fun _ => 0))) :: []) 25 [(0, .ref h0)] []
  exact hR (fun i => [q1, q2].getD i 0) 25 _ dX5_init_25
def bk_X7 (ca : Nat → ClassId) (h0 : Nat) (u : Nat → Nat) : va_W := [(h0, .inr (9, [.ref (u 0), .int 0])), ((u 0), .inl (ca 1, 6, .inr (.inl (fun _ => 0))))]
abbrev rmI_X7 : Room := { frames := 1, cells := 1, slots := 6, locals := 12 }
set_option maxRecDepth 100000 in
set_option maxHeartbeats 8000000 in
theorem c_X7_init (G : va_G) (ca : Nat → ClassId) (h0 sz : Nat) (l : Launch) : Met l yX7_init (wsg yX7_init cX7_init 1 none) rmI_X7 (PZ G ca h0 (.inr (9, [.null, .int 0])) [.ref h0] sz) (QZ G h0 (.inr (9, [.null, .int 0])) sz (bk_X7 ca h0)) 1 6 (va_A [(h0, .inr (9, [.null, .int 0]))] sz) := by
  refine zmet (by decide) rfl rfl (Nat.le_of_ble_eq_true rfl) (fun X A hX hI hR => ?_)
  show Z X G A 0 0 [(h0, .inr (9, [.null, .int 0]))] 0 [(0, .ref h0)] []
  refine Z_aload_n hX dX7_init_0 0 rfl ?_
  refine Z_objInit hX ob_X7 ⟨Nat.le_of_ble_eq_true rfl, Nat.le_of_ble_eq_true rfl⟩ dX7_init_1 ?_
  refine Z_aload_n hX dX7_init_4 0 rfl ?_
  refine Z_bipush (v := 6) hX dX7_init_5 (by decide) ?_
  refine Z_newa (at0 := .long) (i := 1) (n := 6) (a0 := (6, .inr (.inl (fun _ => 0)))) hX rfl ac_long rfl (fun _ => rfl) ⟨by decide, by decide, Nat.le_of_ble_eq_true rfl⟩ ⟨Nat.le_of_ble_eq_true rfl, Nat.le_of_ble_eq_true rfl⟩ dX7_init_7 (fun q1 => ?_)
  show Z X G A 1 6 ((h0, .inr (9, [.null, .int 0])) :: (q1, .inl (ca 1, 6, .inr (.inl (fun _ => 0)))) :: []) 9 [(0, .ref h0)] [.ref q1, .ref h0]
  refine Z_putF 0 hX hI ff_X7_7 rfl ⟨rfl, rfl, Nat.le_of_ble_eq_true rfl⟩ dX7_init_9 ?_
  show Z X G A 1 6 ((h0, .inr (9, [.ref q1, .int 0])) :: (q1, .inl (ca 1, 6, .inr (.inl (fun _ => 0)))) :: []) 12 [(0, .ref h0)] []
  refine Z_aload_n hX dX7_init_12 0 rfl ?_
  refine Z_iconst (v := 0) hX dX7_init_13 (by decide) ?_
  refine Z_put 0 hX fw_X7_13 rfl ⟨rfl, rfl, Nat.le_of_ble_eq_true rfl⟩ dX7_init_14 ?_
  show Z X G A 1 6 ((h0, .inr (9, [.ref q1, .int 0])) :: (q1, .inl (ca 1, 6, .inr (.inl (fun _ => 0)))) :: []) 17 [(0, .ref h0)] []
  exact hR (fun i => [q1].getD i 0) 17 _ dX7_init_17
def bk_X8 (ca : Nat → ClassId) (h0 : Nat) (u : Nat → Nat) : va_W := [(h0, .inr (10, [.ref (u 0), .int 0])), ((u 0), .inl (ca 0, 80, .inl (fun _ => 0)))]
abbrev rmI_X8 : Room := { frames := 1, cells := 1, slots := 80, locals := 12 }
set_option maxRecDepth 100000 in
set_option maxHeartbeats 8000000 in
theorem c_X8_init (G : va_G) (ca : Nat → ClassId) (h0 sz : Nat) (l : Launch) : Met l yX8_init (wsg yX8_init cX8_init 1 none) rmI_X8 (PZ G ca h0 (.inr (10, [.null, .int 0])) [.ref h0] sz) (QZ G h0 (.inr (10, [.null, .int 0])) sz (bk_X8 ca h0)) 1 80 (va_A [(h0, .inr (10, [.null, .int 0]))] sz) := by
  refine zmet (by decide) rfl rfl (Nat.le_of_ble_eq_true rfl) (fun X A hX hI hR => ?_)
  show Z X G A 0 0 [(h0, .inr (10, [.null, .int 0]))] 0 [(0, .ref h0)] []
  refine Z_aload_n hX dX8_init_0 0 rfl ?_
  refine Z_objInit hX ob_X8 ⟨Nat.le_of_ble_eq_true rfl, Nat.le_of_ble_eq_true rfl⟩ dX8_init_1 ?_
  refine Z_aload_n hX dX8_init_4 0 rfl ?_
  refine Z_bipush (v := 80) hX dX8_init_5 (by decide) ?_
  refine Z_newa (at0 := .int) (i := 0) (n := 80) (a0 := (80, .inl (fun _ => 0))) hX rfl ac_int rfl (fun _ => rfl) ⟨by decide, by decide, Nat.le_of_ble_eq_true rfl⟩ ⟨Nat.le_of_ble_eq_true rfl, Nat.le_of_ble_eq_true rfl⟩ dX8_init_7 (fun q1 => ?_)
  show Z X G A 1 80 ((h0, .inr (10, [.null, .int 0])) :: (q1, .inl (ca 0, 80, .inl (fun _ => 0))) :: []) 9 [(0, .ref h0)] [.ref q1, .ref h0]
  refine Z_putF 0 hX hI ff_X8_9 rfl ⟨rfl, rfl, Nat.le_of_ble_eq_true rfl⟩ dX8_init_9 ?_
  show Z X G A 1 80 ((h0, .inr (10, [.ref q1, .int 0])) :: (q1, .inl (ca 0, 80, .inl (fun _ => 0))) :: []) 12 [(0, .ref h0)] []
  refine Z_aload_n hX dX8_init_12 0 rfl ?_
  refine Z_iconst (v := 0) hX dX8_init_13 (by decide) ?_
  refine Z_put 0 hX fw_X8_15 rfl ⟨rfl, rfl, Nat.le_of_ble_eq_true rfl⟩ dX8_init_14 ?_
  show Z X G A 1 80 ((h0, .inr (10, [.ref q1, .int 0])) :: (q1, .inl (ca 0, 80, .inl (fun _ => 0))) :: []) 17 [(0, .ref h0)] []
  exact hR (fun i => [q1].getD i 0) 17 _ dX8_init_17
def bk_X9 (ca : Nat → ClassId) (h0 : Nat) (b1 : Nat) (b2 : Nat) (b3 : Nat) (u : Nat → Nat) : va_W := [(h0, .inr (11, [.ref b1, .ref b2, .ref b3, .int 5, .int 0, .int 2]))]
abbrev rmI_X9 : Room := { frames := 1, cells := 0, slots := 0, locals := 12 }
set_option maxRecDepth 100000 in
set_option maxHeartbeats 8000000 in
theorem c_X9_init (G : va_G) (ca : Nat → ClassId) (h0 sz : Nat) (b1 : Nat) (b2 : Nat) (b3 : Nat) (l : Launch) : Met l yX9_init (wsg yX9_init cX9_init 4 none) rmI_X9 (PZ G ca h0 (.inr (11, [.null, .null, .null, .int 0, .int 0, .int 0])) [.ref h0, .ref b1, .ref b2, .ref b3] sz) (QZ G h0 (.inr (11, [.null, .null, .null, .int 0, .int 0, .int 0])) sz (bk_X9 ca h0 b1 b2 b3)) 0 0 (va_A [(h0, .inr (11, [.null, .null, .null, .int 0, .int 0, .int 0]))] sz) := by
  refine zmet (by decide) rfl rfl (Nat.le_of_ble_eq_true rfl) (fun X A hX hI hR => ?_)
  show Z X G A 0 0 [(h0, .inr (11, [.null, .null, .null, .int 0, .int 0, .int 0]))] 0 [(0, .ref h0), (1, .ref b1), (2, .ref b2), (3, .ref b3)] []
  refine Z_aload_n hX dX9_init_0 0 rfl ?_
  refine Z_objInit hX ob_X9 ⟨Nat.le_of_ble_eq_true rfl, Nat.le_of_ble_eq_true rfl⟩ dX9_init_1 ?_
  refine Z_aload_n hX dX9_init_4 0 rfl ?_
  refine Z_iconst (v := 5) hX dX9_init_5 (by decide) ?_
  refine Z_put 0 hX fw_X9_9 rfl ⟨rfl, rfl, Nat.le_of_ble_eq_true rfl⟩ dX9_init_6 ?_
  show Z X G A 0 0 ((h0, .inr (11, [.null, .null, .null, .int 5, .int 0, .int 0])) :: []) 9 [(0, .ref h0), (1, .ref b1), (2, .ref b2), (3, .ref b3)] []
  refine Z_aload_n hX dX9_init_9 0 rfl ?_
  refine Z_iconst (v := 0) hX dX9_init_10 (by decide) ?_
  refine Z_put 0 hX fw_X9_15 rfl ⟨rfl, rfl, Nat.le_of_ble_eq_true rfl⟩ dX9_init_11 ?_
  show Z X G A 0 0 ((h0, .inr (11, [.null, .null, .null, .int 5, .int 0, .int 0])) :: []) 14 [(0, .ref h0), (1, .ref b1), (2, .ref b2), (3, .ref b3)] []
  refine Z_aload_n hX dX9_init_14 0 rfl ?_
  refine Z_iconst (v := 2) hX dX9_init_15 (by decide) ?_
  refine Z_put 0 hX fw_X9_18 rfl ⟨rfl, rfl, Nat.le_of_ble_eq_true rfl⟩ dX9_init_16 ?_
  show Z X G A 0 0 ((h0, .inr (11, [.null, .null, .null, .int 5, .int 0, .int 2])) :: []) 19 [(0, .ref h0), (1, .ref b1), (2, .ref b2), (3, .ref b3)] []
  refine Z_aload_n hX dX9_init_19 0 rfl ?_
  refine Z_aload_n hX dX9_init_20 1 rfl ?_
  refine Z_putF 0 hX hI ff_X9_21 rfl ⟨rfl, rfl, Nat.le_of_ble_eq_true rfl⟩ dX9_init_21 ?_
  show Z X G A 0 0 ((h0, .inr (11, [.ref b1, .null, .null, .int 5, .int 0, .int 2])) :: []) 24 [(0, .ref h0), (1, .ref b1), (2, .ref b2), (3, .ref b3)] []
  refine Z_aload_n hX dX9_init_24 0 rfl ?_
  refine Z_aload_n hX dX9_init_25 2 rfl ?_
  refine Z_putF 0 hX hI ff_X9_25 rfl ⟨rfl, rfl, Nat.le_of_ble_eq_true rfl⟩ dX9_init_26 ?_
  show Z X G A 0 0 ((h0, .inr (11, [.ref b1, .ref b2, .null, .int 5, .int 0, .int 2])) :: []) 29 [(0, .ref h0), (1, .ref b1), (2, .ref b2), (3, .ref b3)] []
  refine Z_aload_n hX dX9_init_29 0 rfl ?_
  refine Z_aload_n hX dX9_init_30 3 rfl ?_
  refine Z_put 0 hX fw_X9_28 rfl ⟨rfl, rfl, Nat.le_of_ble_eq_true rfl⟩ dX9_init_31 ?_
  show Z X G A 0 0 ((h0, .inr (11, [.ref b1, .ref b2, .ref b3, .int 5, .int 0, .int 2])) :: []) 34 [(0, .ref h0), (1, .ref b1), (2, .ref b2), (3, .ref b3)] []
  exact hR (fun i => [].getD i 0) 34 _ dX9_init_34
def bk_X3 (ca : Nat → ClassId) (h0 : Nat) (u : Nat → Nat) : va_W := [(h0, .inr (5, [.ref (u 0), .ref (u 1), .ref (u 2), .int 0, .ref (u 3), .ref (u 4)])), ((u 0), .inl (ca 0, 12, .inl (fun _ => 0))), ((u 1), .inl (ca 0, 12, .inl (fun _ => 0))), ((u 2), .inl (ca 0, 12, .inl (fun _ => 0))), ((u 3), .inl (ca 0, 48, .inl (fun _ => 0))), ((u 4), .inl (ca 0, 48, .inl (fun _ => 0)))]
abbrev rmI_X3 : Room := { frames := 1, cells := 5, slots := 132, locals := 12 }
set_option maxRecDepth 100000 in
set_option maxHeartbeats 8000000 in
theorem c_X3_init (G : va_G) (ca : Nat → ClassId) (h0 sz : Nat) (l : Launch) : Met l yX3_init (wsg yX3_init cX3_init 1 none) rmI_X3 (PZ G ca h0 (.inr (5, [.null, .null, .null, .int 0, .null, .null])) [.ref h0] sz) (QZ G h0 (.inr (5, [.null, .null, .null, .int 0, .null, .null])) sz (bk_X3 ca h0)) 5 132 (va_A [(h0, .inr (5, [.null, .null, .null, .int 0, .null, .null]))] sz) := by
  refine zmet (by decide) rfl rfl (Nat.le_of_ble_eq_true rfl) (fun X A hX hI hR => ?_)
  show Z X G A 0 0 [(h0, .inr (5, [.null, .null, .null, .int 0, .null, .null]))] 0 [(0, .ref h0)] []
  refine Z_aload_n hX dX3_init_0 0 rfl ?_
  refine Z_objInit hX ob_X3 ⟨Nat.le_of_ble_eq_true rfl, Nat.le_of_ble_eq_true rfl⟩ dX3_init_1 ?_
  refine Z_aload_n hX dX3_init_4 0 rfl ?_
  refine Z_bipush (v := 12) hX dX3_init_5 (by decide) ?_
  refine Z_newa (at0 := .int) (i := 0) (n := 12) (a0 := (12, .inl (fun _ => 0))) hX rfl ac_int rfl (fun _ => rfl) ⟨by decide, by decide, Nat.le_of_ble_eq_true rfl⟩ ⟨Nat.le_of_ble_eq_true rfl, Nat.le_of_ble_eq_true rfl⟩ dX3_init_7 (fun q1 => ?_)
  show Z X G A 1 12 ((h0, .inr (5, [.null, .null, .null, .int 0, .null, .null])) :: (q1, .inl (ca 0, 12, .inl (fun _ => 0))) :: []) 9 [(0, .ref h0)] [.ref q1, .ref h0]
  refine Z_putF 0 hX hI ff_X3_11 rfl ⟨rfl, rfl, Nat.le_of_ble_eq_true rfl⟩ dX3_init_9 ?_
  show Z X G A 1 12 ((h0, .inr (5, [.ref q1, .null, .null, .int 0, .null, .null])) :: (q1, .inl (ca 0, 12, .inl (fun _ => 0))) :: []) 12 [(0, .ref h0)] []
  refine Z_aload_n hX dX3_init_12 0 rfl ?_
  refine Z_bipush (v := 12) hX dX3_init_13 (by decide) ?_
  refine Z_newa (at0 := .int) (i := 0) (n := 12) (a0 := (12, .inl (fun _ => 0))) hX rfl ac_int rfl (fun _ => rfl) ⟨by decide, by decide, Nat.le_of_ble_eq_true rfl⟩ ⟨Nat.le_of_ble_eq_true rfl, Nat.le_of_ble_eq_true rfl⟩ dX3_init_15 (fun q2 => ?_)
  show Z X G A 2 24 ((h0, .inr (5, [.ref q1, .null, .null, .int 0, .null, .null])) :: (q1, .inl (ca 0, 12, .inl (fun _ => 0))) :: (q2, .inl (ca 0, 12, .inl (fun _ => 0))) :: []) 17 [(0, .ref h0)] [.ref q2, .ref h0]
  refine Z_putF 0 hX hI ff_X3_15 rfl ⟨rfl, rfl, Nat.le_of_ble_eq_true rfl⟩ dX3_init_17 ?_
  show Z X G A 2 24 ((h0, .inr (5, [.ref q1, .ref q2, .null, .int 0, .null, .null])) :: (q1, .inl (ca 0, 12, .inl (fun _ => 0))) :: (q2, .inl (ca 0, 12, .inl (fun _ => 0))) :: []) 20 [(0, .ref h0)] []
  refine Z_aload_n hX dX3_init_20 0 rfl ?_
  refine Z_bipush (v := 12) hX dX3_init_21 (by decide) ?_
  refine Z_newa (at0 := .int) (i := 0) (n := 12) (a0 := (12, .inl (fun _ => 0))) hX rfl ac_int rfl (fun _ => rfl) ⟨by decide, by decide, Nat.le_of_ble_eq_true rfl⟩ ⟨Nat.le_of_ble_eq_true rfl, Nat.le_of_ble_eq_true rfl⟩ dX3_init_23 (fun q3 => ?_)
  show Z X G A 3 36 ((h0, .inr (5, [.ref q1, .ref q2, .null, .int 0, .null, .null])) :: (q1, .inl (ca 0, 12, .inl (fun _ => 0))) :: (q2, .inl (ca 0, 12, .inl (fun _ => 0))) :: (q3, .inl (ca 0, 12, .inl (fun _ => 0))) :: []) 25 [(0, .ref h0)] [.ref q3, .ref h0]
  refine Z_putF 0 hX hI ff_X3_18 rfl ⟨rfl, rfl, Nat.le_of_ble_eq_true rfl⟩ dX3_init_25 ?_
  show Z X G A 3 36 ((h0, .inr (5, [.ref q1, .ref q2, .ref q3, .int 0, .null, .null])) :: (q1, .inl (ca 0, 12, .inl (fun _ => 0))) :: (q2, .inl (ca 0, 12, .inl (fun _ => 0))) :: (q3, .inl (ca 0, 12, .inl (fun _ => 0))) :: []) 28 [(0, .ref h0)] []
  refine Z_aload_n hX dX3_init_28 0 rfl ?_
  refine Z_iconst (v := 0) hX dX3_init_29 (by decide) ?_
  refine Z_put 0 hX fw_X3_21 rfl ⟨rfl, rfl, Nat.le_of_ble_eq_true rfl⟩ dX3_init_30 ?_
  show Z X G A 3 36 ((h0, .inr (5, [.ref q1, .ref q2, .ref q3, .int 0, .null, .null])) :: (q1, .inl (ca 0, 12, .inl (fun _ => 0))) :: (q2, .inl (ca 0, 12, .inl (fun _ => 0))) :: (q3, .inl (ca 0, 12, .inl (fun _ => 0))) :: []) 33 [(0, .ref h0)] []
  refine Z_aload_n hX dX3_init_33 0 rfl ?_
  refine Z_bipush (v := 48) hX dX3_init_34 (by decide) ?_
  refine Z_newa (at0 := .int) (i := 0) (n := 48) (a0 := (48, .inl (fun _ => 0))) hX rfl ac_int rfl (fun _ => rfl) ⟨by decide, by decide, Nat.le_of_ble_eq_true rfl⟩ ⟨Nat.le_of_ble_eq_true rfl, Nat.le_of_ble_eq_true rfl⟩ dX3_init_36 (fun q4 => ?_)
  show Z X G A 4 84 ((h0, .inr (5, [.ref q1, .ref q2, .ref q3, .int 0, .null, .null])) :: (q1, .inl (ca 0, 12, .inl (fun _ => 0))) :: (q2, .inl (ca 0, 12, .inl (fun _ => 0))) :: (q3, .inl (ca 0, 12, .inl (fun _ => 0))) :: (q4, .inl (ca 0, 48, .inl (fun _ => 0))) :: []) 38 [(0, .ref h0)] [.ref q4, .ref h0]
  refine Z_putF 0 hX hI ff_X3_25 rfl ⟨rfl, rfl, Nat.le_of_ble_eq_true rfl⟩ dX3_init_38 ?_
  show Z X G A 4 84 ((h0, .inr (5, [.ref q1, .ref q2, .ref q3, .int 0, .ref q4, .null])) :: (q1, .inl (ca 0, 12, .inl (fun _ => 0))) :: (q2, .inl (ca 0, 12, .inl (fun _ => 0))) :: (q3, .inl (ca 0, 12, .inl (fun _ => 0))) :: (q4, .inl (ca 0, 48, .inl (fun _ => 0))) :: []) 41 [(0, .ref h0)] []
  refine Z_aload_n hX dX3_init_41 0 rfl ?_
  refine Z_bipush (v := 48) hX dX3_init_42 (by decide) ?_
  refine Z_newa (at0 := .int) (i := 0) (n := 48) (a0 := (48, .inl (fun _ => 0))) hX rfl ac_int rfl (fun _ => rfl) ⟨by decide, by decide, Nat.le_of_ble_eq_true rfl⟩ ⟨Nat.le_of_ble_eq_true rfl, Nat.le_of_ble_eq_true rfl⟩ dX3_init_44 (fun q5 => ?_)
  show Z X G A 5 132 ((h0, .inr (5, [.ref q1, .ref q2, .ref q3, .int 0, .ref q4, .null])) :: (q1, .inl (ca 0, 12, .inl (fun _ => 0))) :: (q2, .inl (ca 0, 12, .inl (fun _ => 0))) :: (q3, .inl (ca 0, 12, .inl (fun _ => 0))) :: (q4, .inl (ca 0, 48, .inl (fun _ => 0))) :: (q5, .inl (ca 0, 48, .inl (fun _ => 0))) :: []) 46 [(0, .ref h0)] [.ref q5, .ref h0]
  refine Z_putF 0 hX hI ff_X3_28 rfl ⟨rfl, rfl, Nat.le_of_ble_eq_true rfl⟩ dX3_init_46 ?_
  show Z X G A 5 132 ((h0, .inr (5, [.ref q1, .ref q2, .ref q3, .int 0, .ref q4, .ref q5])) :: (q1, .inl (ca 0, 12, .inl (fun _ => 0))) :: (q2, .inl (ca 0, 12, .inl (fun _ => 0))) :: (q3, .inl (ca 0, 12, .inl (fun _ => 0))) :: (q4, .inl (ca 0, 48, .inl (fun _ => 0))) :: (q5, .inl (ca 0, 48, .inl (fun _ => 0))) :: []) 49 [(0, .ref h0)] []
  exact hR (fun i => [q1, q2, q3, q4, q5].getD i 0) 49 _ dX3_init_49
