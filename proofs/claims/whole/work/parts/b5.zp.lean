-- ===== the law's start =====
section ZLAW
variable {X : Cx} {G : va_G} {ca : Nat → ClassId} {A : Nat → Prop} {kc kn : Nat} {ws : va_W} {cc : ByteArray} {own : String} {nL : Nat} {rm : Room} {pc : Nat} {lv lv' : List (Nat × Value)} {st : List Value}
theorem Z_istore {i : Nat} {x : Int32} (hX : Zok X G ca cc own nL rm A) (d : decode cc pc = .ok (.istore i, 2)) (hn : i < nL) (hl : (i, Value.int x) :: lv.filter (fun q => !(q.1 == i) && !(q.1 + 1 == i && q.2.category == 2)) = lv') (kk : Z X G A kc kn ws (pc + 2) lv' st) : Z X G A kc kn ws pc lv (.int x :: st) := by
  obtain ⟨p, l, e, R, s, m, args, below, meth, c, Q⟩ := X
  obtain ⟨h1, h2, rfl, -⟩ := hX
  exact fun H locs ls hP hD hS hv => lv_istore h1 h2 d hv hn hl (fun ls' hv' => kk H locs ls' hP hD hS hv')
set_option maxHeartbeats 4000000 in
theorem z_law {b : Nat} (hX : Zok X G ca cL_law RL 8 room_1 A) (kk : ∀ (h0 : Nat) (u : Nat → Nat) (h1 : Nat) (v : Nat → Nat) (h2 : Nat), Z X G A 120 2255 (stL ca h0 u h1 v h2) 23 [(4, .int (nI (5 * 0))), (3, .ref h2), (2, .ref h1), (1, .ref h0), (0, .ref b)] []) : Z X G A 0 0 [] 0 [(0, .ref b)] [] := by
  refine Z_new hX nw_L_8 ⟨Nat.le_of_ble_eq_true rfl, Nat.le_of_ble_eq_true rfl⟩ dL_law_0 (fun h0 => ?_)
  show Z X G A 1 13 ((h0, .inr (9, [.null, .null, .null, .null, .null, .null, .null, .null, .null, .null, .int 0, .null, .null])) :: []) 3 [(0, .ref b)] [.ref h0]
  refine Z_dup hX dL_law_3 rfl ?_
  refine Z_init (n := 0) (q := h0) (ce := .inr (9, [.null, .null, .null, .null, .null, .null, .null, .null, .null, .null, .int 0, .null, .null])) (blk := bk_X10 ca h0) (As := []) (rest := [.ref h0]) [] [] hX mk_L_22 ⟨rfl, by decide, by decide, by decide +kernel⟩ (fun l sz => c_X10_init G ca h0 sz l) ⟨rfl, rfl⟩ ⟨Nat.le_of_ble_eq_true rfl, Nat.le_of_ble_eq_true rfl⟩ rfl rfl rfl (Nat.le_of_ble_eq_true rfl) dL_law_4 ⟨Nat.le_of_ble_eq_true rfl, Nat.le_of_ble_eq_true rfl⟩ (fun u => ?_)
  show Z X G A 88 1046 (bk_X10 ca h0 u ++ []) 7 [(0, .ref b)] [.ref h0]
  rw [List.append_nil]
  refine Z_astore_n hX dL_law_7 (by decide) rfl ?_
  show Z X G A 88 1046 (bk_X10 ca h0 u) 8 [(1, .ref h0), (0, .ref b)] []
  refine Z_new hX nw_L_23 ⟨Nat.le_of_ble_eq_true rfl, Nat.le_of_ble_eq_true rfl⟩ dL_law_8 (fun h1 => ?_)
  show Z X G A 89 1094 (bk_X10 ca h0 u ++ [(h1, .inr (10, [.int 0, .int 0, .null, .int 0, .int 0, .int 0, .null, .null, .null, .null, .null, .null, .null, .null, .int 0, .int 0, .int 0, .int 0, .null, .int 0, .null, .null, .int 0, .int 0, .null, .null, .int 0, .null, .null, .null, .null, .int 0, .null, .null, .int 0, .null, .null, .int 0, .null, .null, .null, .null, .null, .long 0, .long 0, .null, .null, .null]))]) 11 [(1, .ref h0), (0, .ref b)] [.ref h1]
  refine Z_dup hX dL_law_11 rfl ?_
  refine Z_init (n := 0) (q := h1) (ce := .inr (10, [.int 0, .int 0, .null, .int 0, .int 0, .int 0, .null, .null, .null, .null, .null, .null, .null, .null, .int 0, .int 0, .int 0, .int 0, .null, .int 0, .null, .null, .int 0, .int 0, .null, .null, .int 0, .null, .null, .null, .null, .int 0, .null, .null, .int 0, .null, .null, .int 0, .null, .null, .null, .null, .null, .long 0, .long 0, .null, .null, .null])) (blk := bk_X11 ca h1) (As := []) (rest := [.ref h1]) (bk_X10 ca h0 u) [] hX mk_L_25 ⟨rfl, by decide, by decide, by decide +kernel⟩ (fun l sz => c_X11_init G ca h1 sz l) ⟨rfl, rfl⟩ ⟨Nat.le_of_ble_eq_true rfl, Nat.le_of_ble_eq_true rfl⟩ rfl rfl rfl (Nat.le_of_ble_eq_true rfl) dL_law_12 ⟨Nat.le_of_ble_eq_true rfl, Nat.le_of_ble_eq_true rfl⟩ (fun v => ?_)
  show Z X G A 119 2254 (bk_X10 ca h0 u ++ (bk_X11 ca h1 v ++ [])) 15 [(1, .ref h0), (0, .ref b)] [.ref h1]
  rw [List.append_nil]
  refine Z_astore_n hX dL_law_15 (by decide) rfl ?_
  show Z X G A 119 2254 (bk_X10 ca h0 u ++ bk_X11 ca h1 v) 16 [(2, .ref h1), (1, .ref h0), (0, .ref b)] []
  refine Z_iconst (v := 1) hX dL_law_16 rfl ?_
  refine Z_newa (at0 := .long) (i := 1) (n := 1) (a0 := (1, .inr (.inl (fun _ => 0)))) hX rfl ac_long rfl (fun _ => rfl) ⟨by decide, by decide, Nat.le_of_ble_eq_true rfl⟩ ⟨Nat.le_of_ble_eq_true rfl, Nat.le_of_ble_eq_true rfl⟩ dL_law_17 (fun h2 => ?_)
  show Z X G A 120 2255 (bk_X10 ca h0 u ++ bk_X11 ca h1 v ++ [(h2, .inl (ca 1, 1, .inr (.inl (fun _ => 0))))]) 19 [(2, .ref h1), (1, .ref h0), (0, .ref b)] [.ref h2]
  rw [List.append_assoc]
  refine Z_astore_n hX dL_law_19 (by decide) rfl ?_
  refine Z_iconst (v := nI (5 * 0)) hX dL_law_20 (by decide +kernel) ?_
  refine Z_istore hX dL_law_21 (by decide) rfl ?_
  exact kk h0 u h1 v h2
end ZLAW
theorem en_Sw {s : State} {G : va_G} {ca : Nat → ClassId} {kK kV : Nat → Nat} {fm : Option Nat} {h0 : Nat} {u : Nat → Nat} {h1 : Nat} {v : Nat → Nat} {h2 : Nat} (hK : va_K G vwCl (tyO ca) s) (hE : Ent s kK kV fm) (hD : va_D (fun q => s.heap.size ≤ q) (stL ca h0 u h1 v h2)) : Sw (S0 G ca kK kV fm h0 u h1 v h2) s ∧ NU (S0 G ca kK kV fm h0 u h1 v h2) s s.heap := by
  obtain ⟨e1, e2, e3, e4, e5, e6⟩ := hE
  have hAB : ∀ q, Aw (S0 G ca kK kV fm h0 u h1 v h2) q → s.heap.size ≤ q := fun q h => st_in hD q h
  exact ⟨⟨hK, st_inj hD, e1.narrow hAB, e2, e3.narrow hAB, e4.narrow hAB⟩, e5.narrow hAB, e6.narrow hAB⟩
