section YN
variable {X : Cx} {S : Sx} {K : Kx} {A : Nat → Prop} {kc kn : Nat} {bl : Bk} {cc : ByteArray} {own : String} {nL : Nat} {rm : Room} {pc : Nat} {lv lv' : List (Nat × Value)} {st : List Value}
theorem Y_astore_nN {k : Fin 4} (hX : Yok X S K A cc own nL rm) (d : decode cc pc = .ok (.astore_n k, 1)) (hn : (k : Nat) < nL) (hl : ((k : Nat), Value.null) :: lv.filter (fun q => !(q.1 == (k : Nat)) && !(q.1 + 1 == (k : Nat) && q.2.category == 2)) = lv') (kk : Y X S K A kc kn bl (pc + 1) lv' st) : Y X S K A kc kn bl pc lv (.null :: st) := by
  obtain ⟨p, l, e, R, s, m, args, below, meth, c, Q⟩ := X
  obtain ⟨h1, h2, rfl, -⟩ := hX
  exact fun H locs ls hP hD hS hv => lv_astore_nN h1 h2 d rfl hv hn hl (fun ls' hv' => kk H locs ls' hP hD hS hv')
theorem Y_astoreN {i : Nat} (hX : Yok X S K A cc own nL rm) (d : decode cc pc = .ok (.astore i, 2)) (hn : i < nL) (hl : (i, Value.null) :: lv.filter (fun q => !(q.1 == i) && !(q.1 + 1 == i && q.2.category == 2)) = lv') (kk : Y X S K A kc kn bl (pc + 2) lv' st) : Y X S K A kc kn bl pc lv (.null :: st) := by
  obtain ⟨p, l, e, R, s, m, args, below, meth, c, Q⟩ := X
  obtain ⟨h1, h2, rfl, -⟩ := hX
  exact fun H locs ls hP hD hS hv => lv_astoreN h1 h2 d hv hn hl (fun ls' hv' => kk H locs ls' hP hD hS hv')
end YN
theorem cap_lt {c z : Nat} (h : z < c) (h0 : c ≠ 0) : capN c z = c := by unfold capN; rw [if_neg h0, if_neg (by omega)]
theorem cap_eq {es : List (Option Nat)} (h : es.length = 10) : capN 10 es.length = 15 := by unfold capN; rw [if_neg (by decide), if_pos h]
abbrev rmY_Jx4a65c_add_9ea2d : Room := { frames := 6, cells := 1, slots := 15, locals := 210 }
set_option maxHeartbeats 4000000 in
theorem cY_Jx4a65c_add_9ea2d {S : Sx} {K : Kx} {E : Ex} (hE : Stb E) (hF : ∀ (A : Nat → Prop) (s : State), E A s → KF S K A s s.heap) {mi : Nat} (hM : ∀ (A : Nat → Prop) (s : State), E A s → va_Mi oaN mi s ∧ va_Dc s) (b el cap : Nat) (mod : Int32) (es : List (Option Nat)) (hc : (cap = 0 ∧ es = [] ∧ el = K.2 3) ∨ (cap = 10 ∧ es.length ≤ 10) ∨ (cap = 15 ∧ es.length < 15)) (ww : va_W) (hk : Kept ww (elF es)) (o : Option Nat) (ho : ∀ y, o = some y → ∃ (i : Nat) (vs : List Value), ww[i]? = some (y, .inr (13, vs))) : CY S K E yJx4a65c_add_9ea2d cJx4a65c_add_9ea2d 2 (some .boolean) rmY_Jx4a65c_add_9ea2d [.ref b, va_rf o] ([hdC b el mod (nI es.length), arB K el cap (elF es), ww]) (QYi S ([hdC b el mod (nI es.length), arB K el cap (elF es), ww]) 1 (fun u => [hdC b (u 0) (mod + 1) (nI (es ++ [o]).length), arB K (u 0) (capN cap es.length) (elF (es ++ [o])), ww])) 1 15 := by
  rcases hc with ⟨rfl, rfl, rfl⟩ | ⟨rfl, hc⟩ | ⟨rfl, hc⟩
  · cases o with
    | none =>
      refine y_meti (own := RJx4a65c) (by decide +kernel) rfl (Nat.le_of_ble_eq_true rfl) hE (fun X A hX hE2 hI hR => ?_)
      refine Y_pick (bl' := [hdC b (K.2 3) mod 0, ww]) [0, 2] (by decide) rfl ?_
      show Y X S K A 0 0 [hdC b (K.2 3) mod 0, ww] 0 [(0, .ref b), (1, .null)] []
      refine Y_aload_n hX dJx4a65c_add_9ea2d_0 0 rfl ?_
      refine Y_dup hX dJx4a65c_add_9ea2d_1 rfl ?_
      refine Y_getS 0 0 hX fs_Jx4a65c_63 rfl rfl rfl dJx4a65c_add_9ea2d_2 ?_
      refine Y_iconst (v := 1) hX dJx4a65c_add_9ea2d_5 (by decide) ?_
      refine Y_iadd hX dJx4a65c_add_9ea2d_6 ?_
      refine Y_putS 0 0 hX fs_Jx4a65c_63 rfl rfl ⟨rfl, rfl, Nat.le_of_ble_eq_true rfl⟩ dJx4a65c_add_9ea2d_7 ?_
      show Y X S K A 0 0 [[(b, .inr (2, [.int (mod + 1), .ref (K.2 3), .int 0]))], ww] 10 [(0, .ref b), (1, .null)] []
      refine Y_aload_n hX dJx4a65c_add_9ea2d_10 0 rfl ?_
      refine Y_aload_nN hX dJx4a65c_add_9ea2d_11 1 rfl ?_
      refine Y_aload_n hX dJx4a65c_add_9ea2d_12 0 rfl ?_
      refine Y_get 0 0 hX fk_Jx4a65c_9 rfl rfl rfl dJx4a65c_add_9ea2d_13 ?_
      refine Y_aload_n hX dJx4a65c_add_9ea2d_16 0 rfl ?_
      refine Y_get 0 0 hX fk_Jx4a65c_48 rfl rfl rfl dJx4a65c_add_9ea2d_17 ?_
      refine Y_resv hX (sub := [[(b, .inr (2, [.int (mod + 1), .ref (K.2 3), .int 0]))], ww]) (rst := []) rfl (Y_runV (b := 0) (i := 0) (As := [.null, .ref (K.2 3), .int 0]) (rest := []) hX hE2 mk_Jx4a65c_131 nkY_Jx4a65c_add_72be8 hE (cE_add3 hE hF b (mod + 1) ww none ho) rfl Ecall.same rfl rfl rfl ⟨rfl, rfl⟩ ⟨Nat.le_of_ble_eq_true rfl, Nat.le_of_ble_eq_true rfl⟩ rfl rfl (Nat.le_of_ble_eq_true rfl) dJx4a65c_add_9ea2d_20 ⟨Nat.le_of_ble_eq_true rfl, Nat.le_of_ble_eq_true rfl⟩) (fun u20 => ?_)
      show Y X S K A 1 15 [hdC b (u20 0) (mod + 1) (nI (([] : List (Option Nat)) ++ [none]).length), [(u20 0, .inl (K.1 2, 10, .inr (.inr (.inr (.inr (elF (([] : List (Option Nat)) ++ [none])))))))], ww] 23 [(0, .ref b), (1, .null)] []
      refine Y_iconst (v := 1) hX dJx4a65c_add_9ea2d_23 (by decide) ?_
      exact hR u20 _ _ rfl dJx4a65c_add_9ea2d_24
    | some y =>
      refine y_meti (own := RJx4a65c) (by decide +kernel) rfl (Nat.le_of_ble_eq_true rfl) hE (fun X A hX hE2 hI hR => ?_)
      refine Y_pick (bl' := [hdC b (K.2 3) mod 0, ww]) [0, 2] (by decide) rfl ?_
      show Y X S K A 0 0 [hdC b (K.2 3) mod 0, ww] 0 [(0, .ref b), (1, .ref y)] []
      refine Y_aload_n hX dJx4a65c_add_9ea2d_0 0 rfl ?_
      refine Y_dup hX dJx4a65c_add_9ea2d_1 rfl ?_
      refine Y_getS 0 0 hX fs_Jx4a65c_63 rfl rfl rfl dJx4a65c_add_9ea2d_2 ?_
      refine Y_iconst (v := 1) hX dJx4a65c_add_9ea2d_5 (by decide) ?_
      refine Y_iadd hX dJx4a65c_add_9ea2d_6 ?_
      refine Y_putS 0 0 hX fs_Jx4a65c_63 rfl rfl ⟨rfl, rfl, Nat.le_of_ble_eq_true rfl⟩ dJx4a65c_add_9ea2d_7 ?_
      show Y X S K A 0 0 [[(b, .inr (2, [.int (mod + 1), .ref (K.2 3), .int 0]))], ww] 10 [(0, .ref b), (1, .ref y)] []
      refine Y_aload_n hX dJx4a65c_add_9ea2d_10 0 rfl ?_
      refine Y_aload_n hX dJx4a65c_add_9ea2d_11 1 rfl ?_
      refine Y_aload_n hX dJx4a65c_add_9ea2d_12 0 rfl ?_
      refine Y_get 0 0 hX fk_Jx4a65c_9 rfl rfl rfl dJx4a65c_add_9ea2d_13 ?_
      refine Y_aload_n hX dJx4a65c_add_9ea2d_16 0 rfl ?_
      refine Y_get 0 0 hX fk_Jx4a65c_48 rfl rfl rfl dJx4a65c_add_9ea2d_17 ?_
      refine Y_resv hX (sub := [[(b, .inr (2, [.int (mod + 1), .ref (K.2 3), .int 0]))], ww]) (rst := []) rfl (Y_runV (b := 0) (i := 0) (As := [.ref y, .ref (K.2 3), .int 0]) (rest := []) hX hE2 mk_Jx4a65c_131 nkY_Jx4a65c_add_72be8 hE (cE_add3 hE hF b (mod + 1) ww (some y) ho) rfl Ecall.same rfl rfl rfl ⟨rfl, rfl⟩ ⟨Nat.le_of_ble_eq_true rfl, Nat.le_of_ble_eq_true rfl⟩ rfl rfl (Nat.le_of_ble_eq_true rfl) dJx4a65c_add_9ea2d_20 ⟨Nat.le_of_ble_eq_true rfl, Nat.le_of_ble_eq_true rfl⟩) (fun u20 => ?_)
      show Y X S K A 1 15 [hdC b (u20 0) (mod + 1) (nI (([] : List (Option Nat)) ++ [some y]).length), [(u20 0, .inl (K.1 2, 10, .inr (.inr (.inr (.inr (elF (([] : List (Option Nat)) ++ [some y])))))))], ww] 23 [(0, .ref b), (1, .ref y)] []
      refine Y_iconst (v := 1) hX dJx4a65c_add_9ea2d_23 (by decide) ?_
      exact hR u20 _ _ rfl dJx4a65c_add_9ea2d_24
  · by_cases he : es.length = 10
    · skip
      cases o with
      | none =>
        refine y_meti (own := RJx4a65c) (by decide +kernel) rfl (Nat.le_of_ble_eq_true rfl) hE (fun X A hX hE2 hI hR => ?_)
        refine Y_bl (bl' := [hdC b el mod (nI 10), [(el, .inl (K.1 2, 10, .inr (.inr (.inr (.inr (elF es))))))], ww]) (by rw [he]; rfl) ?_
        show Y X S K A 0 0 [hdC b el mod (nI 10), [(el, .inl (K.1 2, 10, .inr (.inr (.inr (.inr (elF es))))))], ww] 0 [(0, .ref b), (1, .null)] []
        rw [cap_eq he] at hR
        refine Y_aload_n hX dJx4a65c_add_9ea2d_0 0 rfl ?_
        refine Y_dup hX dJx4a65c_add_9ea2d_1 rfl ?_
        refine Y_getS 0 0 hX fs_Jx4a65c_63 rfl rfl rfl dJx4a65c_add_9ea2d_2 ?_
        refine Y_iconst (v := 1) hX dJx4a65c_add_9ea2d_5 (by decide) ?_
        refine Y_iadd hX dJx4a65c_add_9ea2d_6 ?_
        refine Y_putS 0 0 hX fs_Jx4a65c_63 rfl rfl ⟨rfl, rfl, Nat.le_of_ble_eq_true rfl⟩ dJx4a65c_add_9ea2d_7 ?_
        show Y X S K A 0 0 [[(b, .inr (2, [.int (mod + 1), .ref el, .int (nI 10)]))], [(el, .inl (K.1 2, 10, .inr (.inr (.inr (.inr (elF es))))))], ww] 10 [(0, .ref b), (1, .null)] []
        refine Y_aload_n hX dJx4a65c_add_9ea2d_10 0 rfl ?_
        refine Y_aload_nN hX dJx4a65c_add_9ea2d_11 1 rfl ?_
        refine Y_aload_n hX dJx4a65c_add_9ea2d_12 0 rfl ?_
        refine Y_get 0 0 hX fk_Jx4a65c_9 rfl rfl rfl dJx4a65c_add_9ea2d_13 ?_
        refine Y_aload_n hX dJx4a65c_add_9ea2d_16 0 rfl ?_
        refine Y_get 0 0 hX fk_Jx4a65c_48 rfl rfl rfl dJx4a65c_add_9ea2d_17 ?_
        refine Y_resv hX (sub := [[(b, .inr (2, [.int (mod + 1), .ref el, .int (nI 10)]))], [(el, .inl (K.1 2, 10, .inr (.inr (.inr (.inr (elF es))))))], ww]) (rst := []) rfl (Y_runV (b := 0) (i := 0) (As := [.null, .ref el, .int (nI 10)]) (rest := []) hX hE2 mk_Jx4a65c_131 nkY_Jx4a65c_add_72be8 hE (cF_add3 hE hF hM b el (mod + 1) es he ww hk none ho) rfl Ecall.same rfl rfl rfl ⟨rfl, rfl⟩ ⟨Nat.le_of_ble_eq_true rfl, Nat.le_of_ble_eq_true rfl⟩ rfl rfl (Nat.le_of_ble_eq_true rfl) dJx4a65c_add_9ea2d_20 ⟨Nat.le_of_ble_eq_true rfl, Nat.le_of_ble_eq_true rfl⟩) (fun u20 => ?_)
        show Y X S K A 1 15 [hdC b (u20 0) (mod + 1) (nI (es ++ [none]).length), [(u20 0, .inl (K.1 2, 15, .inr (.inr (.inr (.inr (elF (es ++ [none])))))))], ww] 23 [(0, .ref b), (1, .null)] []
        refine Y_iconst (v := 1) hX dJx4a65c_add_9ea2d_23 (by decide) ?_
        exact hR u20 _ _ rfl dJx4a65c_add_9ea2d_24
      | some y =>
        refine y_meti (own := RJx4a65c) (by decide +kernel) rfl (Nat.le_of_ble_eq_true rfl) hE (fun X A hX hE2 hI hR => ?_)
        refine Y_bl (bl' := [hdC b el mod (nI 10), [(el, .inl (K.1 2, 10, .inr (.inr (.inr (.inr (elF es))))))], ww]) (by rw [he]; rfl) ?_
        show Y X S K A 0 0 [hdC b el mod (nI 10), [(el, .inl (K.1 2, 10, .inr (.inr (.inr (.inr (elF es))))))], ww] 0 [(0, .ref b), (1, .ref y)] []
        rw [cap_eq he] at hR
        refine Y_aload_n hX dJx4a65c_add_9ea2d_0 0 rfl ?_
        refine Y_dup hX dJx4a65c_add_9ea2d_1 rfl ?_
        refine Y_getS 0 0 hX fs_Jx4a65c_63 rfl rfl rfl dJx4a65c_add_9ea2d_2 ?_
        refine Y_iconst (v := 1) hX dJx4a65c_add_9ea2d_5 (by decide) ?_
        refine Y_iadd hX dJx4a65c_add_9ea2d_6 ?_
        refine Y_putS 0 0 hX fs_Jx4a65c_63 rfl rfl ⟨rfl, rfl, Nat.le_of_ble_eq_true rfl⟩ dJx4a65c_add_9ea2d_7 ?_
        show Y X S K A 0 0 [[(b, .inr (2, [.int (mod + 1), .ref el, .int (nI 10)]))], [(el, .inl (K.1 2, 10, .inr (.inr (.inr (.inr (elF es))))))], ww] 10 [(0, .ref b), (1, .ref y)] []
        refine Y_aload_n hX dJx4a65c_add_9ea2d_10 0 rfl ?_
        refine Y_aload_n hX dJx4a65c_add_9ea2d_11 1 rfl ?_
        refine Y_aload_n hX dJx4a65c_add_9ea2d_12 0 rfl ?_
        refine Y_get 0 0 hX fk_Jx4a65c_9 rfl rfl rfl dJx4a65c_add_9ea2d_13 ?_
        refine Y_aload_n hX dJx4a65c_add_9ea2d_16 0 rfl ?_
        refine Y_get 0 0 hX fk_Jx4a65c_48 rfl rfl rfl dJx4a65c_add_9ea2d_17 ?_
        refine Y_resv hX (sub := [[(b, .inr (2, [.int (mod + 1), .ref el, .int (nI 10)]))], [(el, .inl (K.1 2, 10, .inr (.inr (.inr (.inr (elF es))))))], ww]) (rst := []) rfl (Y_runV (b := 0) (i := 0) (As := [.ref y, .ref el, .int (nI 10)]) (rest := []) hX hE2 mk_Jx4a65c_131 nkY_Jx4a65c_add_72be8 hE (cF_add3 hE hF hM b el (mod + 1) es he ww hk (some y) ho) rfl Ecall.same rfl rfl rfl ⟨rfl, rfl⟩ ⟨Nat.le_of_ble_eq_true rfl, Nat.le_of_ble_eq_true rfl⟩ rfl rfl (Nat.le_of_ble_eq_true rfl) dJx4a65c_add_9ea2d_20 ⟨Nat.le_of_ble_eq_true rfl, Nat.le_of_ble_eq_true rfl⟩) (fun u20 => ?_)
        show Y X S K A 1 15 [hdC b (u20 0) (mod + 1) (nI (es ++ [some y]).length), [(u20 0, .inl (K.1 2, 15, .inr (.inr (.inr (.inr (elF (es ++ [some y])))))))], ww] 23 [(0, .ref b), (1, .ref y)] []
        refine Y_iconst (v := 1) hX dJx4a65c_add_9ea2d_23 (by decide) ?_
        exact hR u20 _ _ rfl dJx4a65c_add_9ea2d_24
    · skip
      cases o with
      | none =>
        refine y_meti (own := RJx4a65c) (by decide +kernel) rfl (Nat.le_of_ble_eq_true rfl) hE (fun X A hX hE2 hI hR => ?_)
        show Y X S K A 0 0 [hdC b el mod (nI es.length), [(el, .inl (K.1 2, 10, .inr (.inr (.inr (.inr (elF es))))))], ww] 0 [(0, .ref b), (1, .null)] []
        rw [cap_lt (c := 10) (by omega) (by decide)] at hR
        refine Y_aload_n hX dJx4a65c_add_9ea2d_0 0 rfl ?_
        refine Y_dup hX dJx4a65c_add_9ea2d_1 rfl ?_
        refine Y_getS 0 0 hX fs_Jx4a65c_63 rfl rfl rfl dJx4a65c_add_9ea2d_2 ?_
        refine Y_iconst (v := 1) hX dJx4a65c_add_9ea2d_5 (by decide) ?_
        refine Y_iadd hX dJx4a65c_add_9ea2d_6 ?_
        refine Y_putS 0 0 hX fs_Jx4a65c_63 rfl rfl ⟨rfl, rfl, Nat.le_of_ble_eq_true rfl⟩ dJx4a65c_add_9ea2d_7 ?_
        show Y X S K A 0 0 [[(b, .inr (2, [.int (mod + 1), .ref el, .int (nI es.length)]))], [(el, .inl (K.1 2, 10, .inr (.inr (.inr (.inr (elF es))))))], ww] 10 [(0, .ref b), (1, .null)] []
        refine Y_aload_n hX dJx4a65c_add_9ea2d_10 0 rfl ?_
        refine Y_aload_nN hX dJx4a65c_add_9ea2d_11 1 rfl ?_
        refine Y_aload_n hX dJx4a65c_add_9ea2d_12 0 rfl ?_
        refine Y_get 0 0 hX fk_Jx4a65c_9 rfl rfl rfl dJx4a65c_add_9ea2d_13 ?_
        refine Y_aload_n hX dJx4a65c_add_9ea2d_16 0 rfl ?_
        refine Y_get 0 0 hX fk_Jx4a65c_48 rfl rfl rfl dJx4a65c_add_9ea2d_17 ?_
        refine Y_resv hX (sub := [[(b, .inr (2, [.int (mod + 1), .ref el, .int (nI es.length)]))], [(el, .inl (K.1 2, 10, .inr (.inr (.inr (.inr (elF es))))))], ww]) (rst := []) rfl (Y_runV (b := 0) (i := 0) (As := [.null, .ref el, .int (nI es.length)]) (rest := []) hX hE2 mk_Jx4a65c_131 nkY_Jx4a65c_add_72be8 hE (cP_add3 hE hF b el 10 (mod + 1) es (by omega) (by decide) ww none ho) rfl Ecall.same rfl rfl rfl ⟨rfl, rfl⟩ ⟨Nat.le_of_ble_eq_true rfl, Nat.le_of_ble_eq_true rfl⟩ rfl rfl (Nat.le_of_ble_eq_true rfl) dJx4a65c_add_9ea2d_20 ⟨Nat.le_of_ble_eq_true rfl, Nat.le_of_ble_eq_true rfl⟩) (fun u20 => ?_)
        show Y X S K A 1 15 [hdC b el (mod + 1) (nI (es ++ [none]).length), [(el, .inl (K.1 2, 10, .inr (.inr (.inr (.inr (elF (es ++ [none])))))))], ww] 23 [(0, .ref b), (1, .null)] []
        refine Y_iconst (v := 1) hX dJx4a65c_add_9ea2d_23 (by decide) ?_
        exact hR (fun _ => el) _ _ rfl dJx4a65c_add_9ea2d_24
      | some y =>
        refine y_meti (own := RJx4a65c) (by decide +kernel) rfl (Nat.le_of_ble_eq_true rfl) hE (fun X A hX hE2 hI hR => ?_)
        show Y X S K A 0 0 [hdC b el mod (nI es.length), [(el, .inl (K.1 2, 10, .inr (.inr (.inr (.inr (elF es))))))], ww] 0 [(0, .ref b), (1, .ref y)] []
        rw [cap_lt (c := 10) (by omega) (by decide)] at hR
        refine Y_aload_n hX dJx4a65c_add_9ea2d_0 0 rfl ?_
        refine Y_dup hX dJx4a65c_add_9ea2d_1 rfl ?_
        refine Y_getS 0 0 hX fs_Jx4a65c_63 rfl rfl rfl dJx4a65c_add_9ea2d_2 ?_
        refine Y_iconst (v := 1) hX dJx4a65c_add_9ea2d_5 (by decide) ?_
        refine Y_iadd hX dJx4a65c_add_9ea2d_6 ?_
        refine Y_putS 0 0 hX fs_Jx4a65c_63 rfl rfl ⟨rfl, rfl, Nat.le_of_ble_eq_true rfl⟩ dJx4a65c_add_9ea2d_7 ?_
        show Y X S K A 0 0 [[(b, .inr (2, [.int (mod + 1), .ref el, .int (nI es.length)]))], [(el, .inl (K.1 2, 10, .inr (.inr (.inr (.inr (elF es))))))], ww] 10 [(0, .ref b), (1, .ref y)] []
        refine Y_aload_n hX dJx4a65c_add_9ea2d_10 0 rfl ?_
        refine Y_aload_n hX dJx4a65c_add_9ea2d_11 1 rfl ?_
        refine Y_aload_n hX dJx4a65c_add_9ea2d_12 0 rfl ?_
        refine Y_get 0 0 hX fk_Jx4a65c_9 rfl rfl rfl dJx4a65c_add_9ea2d_13 ?_
        refine Y_aload_n hX dJx4a65c_add_9ea2d_16 0 rfl ?_
        refine Y_get 0 0 hX fk_Jx4a65c_48 rfl rfl rfl dJx4a65c_add_9ea2d_17 ?_
        refine Y_resv hX (sub := [[(b, .inr (2, [.int (mod + 1), .ref el, .int (nI es.length)]))], [(el, .inl (K.1 2, 10, .inr (.inr (.inr (.inr (elF es))))))], ww]) (rst := []) rfl (Y_runV (b := 0) (i := 0) (As := [.ref y, .ref el, .int (nI es.length)]) (rest := []) hX hE2 mk_Jx4a65c_131 nkY_Jx4a65c_add_72be8 hE (cP_add3 hE hF b el 10 (mod + 1) es (by omega) (by decide) ww (some y) ho) rfl Ecall.same rfl rfl rfl ⟨rfl, rfl⟩ ⟨Nat.le_of_ble_eq_true rfl, Nat.le_of_ble_eq_true rfl⟩ rfl rfl (Nat.le_of_ble_eq_true rfl) dJx4a65c_add_9ea2d_20 ⟨Nat.le_of_ble_eq_true rfl, Nat.le_of_ble_eq_true rfl⟩) (fun u20 => ?_)
        show Y X S K A 1 15 [hdC b el (mod + 1) (nI (es ++ [some y]).length), [(el, .inl (K.1 2, 10, .inr (.inr (.inr (.inr (elF (es ++ [some y])))))))], ww] 23 [(0, .ref b), (1, .ref y)] []
        refine Y_iconst (v := 1) hX dJx4a65c_add_9ea2d_23 (by decide) ?_
        exact hR (fun _ => el) _ _ rfl dJx4a65c_add_9ea2d_24
  · cases o with
    | none =>
      refine y_meti (own := RJx4a65c) (by decide +kernel) rfl (Nat.le_of_ble_eq_true rfl) hE (fun X A hX hE2 hI hR => ?_)
      show Y X S K A 0 0 [hdC b el mod (nI es.length), [(el, .inl (K.1 2, 15, .inr (.inr (.inr (.inr (elF es))))))], ww] 0 [(0, .ref b), (1, .null)] []
      rw [cap_lt (c := 15) (by omega) (by decide)] at hR
      refine Y_aload_n hX dJx4a65c_add_9ea2d_0 0 rfl ?_
      refine Y_dup hX dJx4a65c_add_9ea2d_1 rfl ?_
      refine Y_getS 0 0 hX fs_Jx4a65c_63 rfl rfl rfl dJx4a65c_add_9ea2d_2 ?_
      refine Y_iconst (v := 1) hX dJx4a65c_add_9ea2d_5 (by decide) ?_
      refine Y_iadd hX dJx4a65c_add_9ea2d_6 ?_
      refine Y_putS 0 0 hX fs_Jx4a65c_63 rfl rfl ⟨rfl, rfl, Nat.le_of_ble_eq_true rfl⟩ dJx4a65c_add_9ea2d_7 ?_
      show Y X S K A 0 0 [[(b, .inr (2, [.int (mod + 1), .ref el, .int (nI es.length)]))], [(el, .inl (K.1 2, 15, .inr (.inr (.inr (.inr (elF es))))))], ww] 10 [(0, .ref b), (1, .null)] []
      refine Y_aload_n hX dJx4a65c_add_9ea2d_10 0 rfl ?_
      refine Y_aload_nN hX dJx4a65c_add_9ea2d_11 1 rfl ?_
      refine Y_aload_n hX dJx4a65c_add_9ea2d_12 0 rfl ?_
      refine Y_get 0 0 hX fk_Jx4a65c_9 rfl rfl rfl dJx4a65c_add_9ea2d_13 ?_
      refine Y_aload_n hX dJx4a65c_add_9ea2d_16 0 rfl ?_
      refine Y_get 0 0 hX fk_Jx4a65c_48 rfl rfl rfl dJx4a65c_add_9ea2d_17 ?_
      refine Y_resv hX (sub := [[(b, .inr (2, [.int (mod + 1), .ref el, .int (nI es.length)]))], [(el, .inl (K.1 2, 15, .inr (.inr (.inr (.inr (elF es))))))], ww]) (rst := []) rfl (Y_runV (b := 0) (i := 0) (As := [.null, .ref el, .int (nI es.length)]) (rest := []) hX hE2 mk_Jx4a65c_131 nkY_Jx4a65c_add_72be8 hE (cP_add3 hE hF b el 15 (mod + 1) es (by omega) (by decide) ww none ho) rfl Ecall.same rfl rfl rfl ⟨rfl, rfl⟩ ⟨Nat.le_of_ble_eq_true rfl, Nat.le_of_ble_eq_true rfl⟩ rfl rfl (Nat.le_of_ble_eq_true rfl) dJx4a65c_add_9ea2d_20 ⟨Nat.le_of_ble_eq_true rfl, Nat.le_of_ble_eq_true rfl⟩) (fun u20 => ?_)
      show Y X S K A 1 15 [hdC b el (mod + 1) (nI (es ++ [none]).length), [(el, .inl (K.1 2, 15, .inr (.inr (.inr (.inr (elF (es ++ [none])))))))], ww] 23 [(0, .ref b), (1, .null)] []
      refine Y_iconst (v := 1) hX dJx4a65c_add_9ea2d_23 (by decide) ?_
      exact hR (fun _ => el) _ _ rfl dJx4a65c_add_9ea2d_24
    | some y =>
      refine y_meti (own := RJx4a65c) (by decide +kernel) rfl (Nat.le_of_ble_eq_true rfl) hE (fun X A hX hE2 hI hR => ?_)
      show Y X S K A 0 0 [hdC b el mod (nI es.length), [(el, .inl (K.1 2, 15, .inr (.inr (.inr (.inr (elF es))))))], ww] 0 [(0, .ref b), (1, .ref y)] []
      rw [cap_lt (c := 15) (by omega) (by decide)] at hR
      refine Y_aload_n hX dJx4a65c_add_9ea2d_0 0 rfl ?_
      refine Y_dup hX dJx4a65c_add_9ea2d_1 rfl ?_
      refine Y_getS 0 0 hX fs_Jx4a65c_63 rfl rfl rfl dJx4a65c_add_9ea2d_2 ?_
      refine Y_iconst (v := 1) hX dJx4a65c_add_9ea2d_5 (by decide) ?_
      refine Y_iadd hX dJx4a65c_add_9ea2d_6 ?_
      refine Y_putS 0 0 hX fs_Jx4a65c_63 rfl rfl ⟨rfl, rfl, Nat.le_of_ble_eq_true rfl⟩ dJx4a65c_add_9ea2d_7 ?_
      show Y X S K A 0 0 [[(b, .inr (2, [.int (mod + 1), .ref el, .int (nI es.length)]))], [(el, .inl (K.1 2, 15, .inr (.inr (.inr (.inr (elF es))))))], ww] 10 [(0, .ref b), (1, .ref y)] []
      refine Y_aload_n hX dJx4a65c_add_9ea2d_10 0 rfl ?_
      refine Y_aload_n hX dJx4a65c_add_9ea2d_11 1 rfl ?_
      refine Y_aload_n hX dJx4a65c_add_9ea2d_12 0 rfl ?_
      refine Y_get 0 0 hX fk_Jx4a65c_9 rfl rfl rfl dJx4a65c_add_9ea2d_13 ?_
      refine Y_aload_n hX dJx4a65c_add_9ea2d_16 0 rfl ?_
      refine Y_get 0 0 hX fk_Jx4a65c_48 rfl rfl rfl dJx4a65c_add_9ea2d_17 ?_
      refine Y_resv hX (sub := [[(b, .inr (2, [.int (mod + 1), .ref el, .int (nI es.length)]))], [(el, .inl (K.1 2, 15, .inr (.inr (.inr (.inr (elF es))))))], ww]) (rst := []) rfl (Y_runV (b := 0) (i := 0) (As := [.ref y, .ref el, .int (nI es.length)]) (rest := []) hX hE2 mk_Jx4a65c_131 nkY_Jx4a65c_add_72be8 hE (cP_add3 hE hF b el 15 (mod + 1) es (by omega) (by decide) ww (some y) ho) rfl Ecall.same rfl rfl rfl ⟨rfl, rfl⟩ ⟨Nat.le_of_ble_eq_true rfl, Nat.le_of_ble_eq_true rfl⟩ rfl rfl (Nat.le_of_ble_eq_true rfl) dJx4a65c_add_9ea2d_20 ⟨Nat.le_of_ble_eq_true rfl, Nat.le_of_ble_eq_true rfl⟩) (fun u20 => ?_)
      show Y X S K A 1 15 [hdC b el (mod + 1) (nI (es ++ [some y]).length), [(el, .inl (K.1 2, 15, .inr (.inr (.inr (.inr (elF (es ++ [some y])))))))], ww] 23 [(0, .ref b), (1, .ref y)] []
      refine Y_iconst (v := 1) hX dJx4a65c_add_9ea2d_23 (by decide) ?_
      exact hR (fun _ => el) _ _ rfl dJx4a65c_add_9ea2d_24
theorem el_last2 {es : List (Option Nat)} {m i : Nat} (hm : es.length = m + 1) (e : i = m) : va_up (elF es) m none = elF (es.eraseIdx i) := by rw [e]; exact el_last hm
abbrev rmY_Jx4a65c_fastRemove_b59b0 : Room := { frames := 1, cells := 0, slots := 0, locals := 100 }
set_option maxHeartbeats 4000000 in
theorem cY_Jx4a65c_fastRemove_b59b0 {S : Sx} {K : Kx} {E : Ex} (hE : Stb E) (hF : ∀ (A : Nat → Prop) (s : State), E A s → KF S K A s s.heap) (b el cap : Nat) (mod : Int32) (es : List (Option Nat)) (m : Nat) (hm : es.length = m + 1) (hc : es.length ≤ cap) (hc2 : cap ≤ 15) (i : Nat) (hi : i ≤ m) (ww : va_W) (hk : Kept ww (elF es)) : CY S K E yJx4a65c_fastRemove_b59b0 cJx4a65c_fastRemove_b59b0 4 none rmY_Jx4a65c_fastRemove_b59b0 [.ref b, .ref el, .int (nI i)] ([hdC b el mod (nI (m + 1)), [(el, .inl (K.1 2, cap, .inr (.inr (.inr (.inr (elF es))))))], ww]) (QYv S ([hdC b el mod (nI (m + 1)), [(el, .inl (K.1 2, cap, .inr (.inr (.inr (.inr (elF es))))))], ww]) (fun _ => [hdC b el (mod + 1) (nI m), [(el, .inl (K.1 2, cap, .inr (.inr (.inr (.inr (elF (es.eraseIdx i)))))))], ww])) 0 0 := by
  refine y_metv (own := RJx4a65c) (by decide +kernel) rfl (Nat.le_of_ble_eq_true rfl) hE (fun X A hX hE2 hI hR => ?_)
  show Y X S K A 0 0 [hdC b el mod (nI (m + 1)), [(el, .inl (K.1 2, cap, .inr (.inr (.inr (.inr (elF es))))))], ww] 0 [(0, .ref b), (1, .ref el), (2, .int (nI i))] []
  refine Y_aload_n hX dJx4a65c_fastRemove_b59b0_0 0 rfl ?_
  refine Y_dup hX dJx4a65c_fastRemove_b59b0_1 rfl ?_
  refine Y_getS 0 0 hX fs_Jx4a65c_63 rfl rfl rfl dJx4a65c_fastRemove_b59b0_2 ?_
  refine Y_iconst (v := 1) hX dJx4a65c_fastRemove_b59b0_5 (by decide) ?_
  refine Y_iadd hX dJx4a65c_fastRemove_b59b0_6 ?_
  refine Y_putS 0 0 hX fs_Jx4a65c_63 rfl rfl ⟨rfl, rfl, Nat.le_of_ble_eq_true rfl⟩ dJx4a65c_fastRemove_b59b0_7 ?_
  show Y X S K A 0 0 [[(b, .inr (2, [.int (mod + 1), .ref el, .int (nI (m + 1))]))], [(el, .inl (K.1 2, cap, .inr (.inr (.inr (.inr (elF es))))))], ww] 10 [(0, .ref b), (1, .ref el), (2, .int (nI i))] []
  refine Y_aload_n hX dJx4a65c_fastRemove_b59b0_10 0 rfl ?_
  refine Y_get 0 0 hX fk_Jx4a65c_48 rfl rfl rfl dJx4a65c_fastRemove_b59b0_11 ?_
  refine Y_iconst (v := 1) hX dJx4a65c_fastRemove_b59b0_14 (by decide) ?_
  refine Y_isub hX dJx4a65c_fastRemove_b59b0_15 ?_
  refine Y_eqi (x' := nI m) ((nI_pred m)) ?_
  refine Y_dup hX dJx4a65c_fastRemove_b59b0_16 rfl ?_
  refine Y_istore_n (lv' := [(3, .int (nI m)), (0, .ref b), (1, .ref el), (2, .int (nI i))]) hX dJx4a65c_fastRemove_b59b0_17 (by decide) rfl ?_
  refine Y_iload_n hX dJx4a65c_fastRemove_b59b0_18 3 rfl ?_
  refine Y_icmp_le (tgt := 34) hX dJx4a65c_fastRemove_b59b0_19 (by decide) (fun h19 => ?_) (fun h19 => ?_)
  · refine Y_aload_n hX dJx4a65c_fastRemove_b59b0_34 2 rfl ?_
    refine Y_aload_n hX dJx4a65c_fastRemove_b59b0_35 1 rfl ?_
    refine Y_iload_n hX dJx4a65c_fastRemove_b59b0_36 0 rfl ?_
    refine Y_dup_x1 hX dJx4a65c_fastRemove_b59b0_37 rfl rfl ?_
    refine Y_put 0 0 hX fw_Jx4a65c_48 rfl rfl ⟨rfl, rfl, Nat.le_of_ble_eq_true rfl⟩ dJx4a65c_fastRemove_b59b0_38 ?_
    show Y X S K A 0 0 [[(b, .inr (2, [.int (mod + 1), .ref el, .int (nI m)]))], [(el, .inl (K.1 2, cap, .inr (.inr (.inr (.inr (elF es))))))], ww] 41 [(3, .int (nI m)), (0, .ref b), (1, .ref el), (2, .int (nI i))] [.int (nI m), .ref el]
    refine Y_null hX dJx4a65c_fastRemove_b59b0_41 ?_
    refine Y_aastN 1 0 hX rfl rfl (vp_in_nI (by omega) (by omega)) dJx4a65c_fastRemove_b59b0_42 ?_
    show Y X S K A 0 0 [[(b, .inr (2, [.int (mod + 1), .ref el, .int (nI m)]))], [(el, .inl (K.1 2, cap, .inr (.inr (.inr (.inr (va_up (elF es) (nI m).toNatClampNeg none))))))], ww] 43 [(3, .int (nI m)), (0, .ref b), (1, .ref el), (2, .int (nI i))] []
    rw [show va_up (elF es) (nI m).toNatClampNeg none = elF (es.eraseIdx i) from by rw [nI_clamp (show m < 2 ^ 31 by omega)]; exact el_last2 hm (by have := (nI_leI (a := m) (b := i) (by omega) (by omega)).mp h19; omega)]
    exact hR (fun _ => 0) _ _ dJx4a65c_fastRemove_b59b0_43
  · replace h19 : i < m := Nat.not_le.mp (fun z => h19 (nI_le z (by omega)))
    refine Y_aload_n hX dJx4a65c_fastRemove_b59b0_22 2 rfl ?_
    refine Y_iload_n hX dJx4a65c_fastRemove_b59b0_23 3 rfl ?_
    refine Y_iconst (v := 1) hX dJx4a65c_fastRemove_b59b0_24 (by decide) ?_
    refine Y_iadd hX dJx4a65c_fastRemove_b59b0_25 ?_
    refine Y_eqi (x' := nI (i + 1)) ((nI_1 i)) ?_
    refine Y_aload_n hX dJx4a65c_fastRemove_b59b0_26 2 rfl ?_
    refine Y_iload_n hX dJx4a65c_fastRemove_b59b0_27 3 rfl ?_
    refine Y_iload_n hX dJx4a65c_fastRemove_b59b0_28 0 rfl ?_
    refine Y_iload_n hX dJx4a65c_fastRemove_b59b0_29 3 rfl ?_
    refine Y_isub hX dJx4a65c_fastRemove_b59b0_30 ?_
    refine Y_eqi (x' := nI (m - i)) ((pk_sub (by omega))) ?_
    refine Y_copyO 1 0 1 0 hX mk_Jx4a65c_112 rfl rfl rfl rfl ⟨nI_pos (by omega), nI_pos (by omega), nI_pos (by omega), by rw [nI_clamp (by omega), nI_clamp (by omega)]; omega, by rw [nI_clamp (by omega), nI_clamp (by omega)]; omega⟩ (hk.at (p := 2) rfl) ⟨Nat.le_of_ble_eq_true rfl, Nat.le_of_ble_eq_true rfl⟩ dJx4a65c_fastRemove_b59b0_31 ?_
    show Y X S K A 0 0 [[(b, .inr (2, [.int (mod + 1), .ref el, .int (nI (m + 1))]))], [(el, .inl (K.1 2, cap, .inr (.inr (.inr (.inr (va_cpy (elF es) (elF es) (nI (i + 1)).toNatClampNeg (nI i).toNatClampNeg (nI (m - i)).toNatClampNeg))))))], ww] 34 [(3, .int (nI m)), (0, .ref b), (1, .ref el), (2, .int (nI i))] []
    refine Y_aload_n hX dJx4a65c_fastRemove_b59b0_34 2 rfl ?_
    refine Y_aload_n hX dJx4a65c_fastRemove_b59b0_35 1 rfl ?_
    refine Y_iload_n hX dJx4a65c_fastRemove_b59b0_36 0 rfl ?_
    refine Y_dup_x1 hX dJx4a65c_fastRemove_b59b0_37 rfl rfl ?_
    refine Y_put 0 0 hX fw_Jx4a65c_48 rfl rfl ⟨rfl, rfl, Nat.le_of_ble_eq_true rfl⟩ dJx4a65c_fastRemove_b59b0_38 ?_
    show Y X S K A 0 0 [[(b, .inr (2, [.int (mod + 1), .ref el, .int (nI m)]))], [(el, .inl (K.1 2, cap, .inr (.inr (.inr (.inr (va_cpy (elF es) (elF es) (nI (i + 1)).toNatClampNeg (nI i).toNatClampNeg (nI (m - i)).toNatClampNeg))))))], ww] 41 [(3, .int (nI m)), (0, .ref b), (1, .ref el), (2, .int (nI i))] [.int (nI m), .ref el]
    refine Y_null hX dJx4a65c_fastRemove_b59b0_41 ?_
    refine Y_aastN 1 0 hX rfl rfl (vp_in_nI (by omega) (by omega)) dJx4a65c_fastRemove_b59b0_42 ?_
    show Y X S K A 0 0 [[(b, .inr (2, [.int (mod + 1), .ref el, .int (nI m)]))], [(el, .inl (K.1 2, cap, .inr (.inr (.inr (.inr (va_up (va_cpy (elF es) (elF es) (nI (i + 1)).toNatClampNeg (nI i).toNatClampNeg (nI (m - i)).toNatClampNeg) (nI m).toNatClampNeg none))))))], ww] 43 [(3, .int (nI m)), (0, .ref b), (1, .ref el), (2, .int (nI i))] []
    rw [show va_up (va_cpy (elF es) (elF es) (nI (i + 1)).toNatClampNeg (nI i).toNatClampNeg (nI (m - i)).toNatClampNeg) (nI m).toNatClampNeg none = elF (es.eraseIdx i) from by rw [nI_clamp (show m < 2 ^ 31 by omega)]; exact el_cut hm hi (by omega)]
    exact hR (fun _ => 0) _ _ dJx4a65c_fastRemove_b59b0_43
abbrev rmY_Jx4a65c_remove_915e3 : Room := { frames := 2, cells := 0, slots := 0, locals := 123 }
set_option maxHeartbeats 4000000 in
theorem cY_Jx4a65c_remove_915e3 {S : Sx} {K : Kx} {E : Ex} (hE : Stb E) (hF : ∀ (A : Nat → Prop) (s : State), E A s → KF S K A s s.heap) (b el cap : Nat) (mod : Int32) (es : List (Option Nat)) (m : Nat) (hm : es.length = m + 1) (hc : es.length ≤ cap) (hc2 : cap ≤ 15) (i : Nat) (hi : i ≤ m) (ww : va_W) (hk : Kept ww (elF es)) : CY S K E yJx4a65c_remove_915e3 cJx4a65c_remove_915e3 4 (some (.object "java/lang/Object")) rmY_Jx4a65c_remove_915e3 [.ref b, .int (nI i)] ([hdC b el mod (nI (m + 1)), [(el, .inl (K.1 2, cap, .inr (.inr (.inr (.inr (elF es))))))], ww]) (QYq S ([hdC b el mod (nI (m + 1)), [(el, .inl (K.1 2, cap, .inr (.inr (.inr (.inr (elF es))))))], ww]) (fun _ => elF es i) (fun _ => [hdC b el (mod + 1) (nI m), [(el, .inl (K.1 2, cap, .inr (.inr (.inr (.inr (elF (es.eraseIdx i)))))))], ww])) 0 0 := by
  cases hv : elF es i with
  | none =>
    refine y_metq (own := RJx4a65c) (.inl ⟨_, rfl⟩) (by decide +kernel) rfl (Nat.le_of_ble_eq_true rfl) hE (fun X A hX hE2 hI hR => ?_)
    show Y X S K A 0 0 [hdC b el mod (nI (m + 1)), [(el, .inl (K.1 2, cap, .inr (.inr (.inr (.inr (elF es))))))], ww] 0 [(0, .ref b), (1, .int (nI i))] []
    refine Y_iload_n hX dJx4a65c_remove_915e3_0 1 rfl ?_
    refine Y_aload_n hX dJx4a65c_remove_915e3_1 0 rfl ?_
    refine Y_get 0 0 hX fk_Jx4a65c_48 rfl rfl rfl dJx4a65c_remove_915e3_2 ?_
    refine Y_resi hX (sub := []) (rst := [hdC b el mod (nI (m + 1)), [(el, .inl (K.1 2, cap, .inr (.inr (.inr (.inr (elF es))))))], ww]) rfl (Y_runS (As := [.int (nI i), .int (nI (m + 1))]) (rest := []) hX hE2 mk_Jx4a65c_118 nkY_J15_checkIndex_7cf53 hE (cY_J15_checkIndex_7cf53 hE hF i (m + 1) (by omega) (by omega)) rfl Ecall.same ⟨rfl, rfl⟩ ⟨Nat.le_of_ble_eq_true rfl, Nat.le_of_ble_eq_true rfl⟩ rfl rfl (Nat.le_of_ble_eq_true rfl) dJx4a65c_remove_915e3_5 ⟨Nat.le_of_ble_eq_true rfl, Nat.le_of_ble_eq_true rfl⟩) (fun u5 => ?_)
    show Y X S K A 0 0 [hdC b el mod (nI (m + 1)), [(el, .inl (K.1 2, cap, .inr (.inr (.inr (.inr (elF es))))))], ww] 8 [(0, .ref b), (1, .int (nI i))] [.int (nI i)]
    refine Y_pop hX dJx4a65c_remove_915e3_8 rfl ?_
    refine Y_aload_n hX dJx4a65c_remove_915e3_9 0 rfl ?_
    refine Y_get 0 0 hX fk_Jx4a65c_9 rfl rfl rfl dJx4a65c_remove_915e3_10 ?_
    refine Y_astore_n (lv' := [(2, .ref el), (0, .ref b), (1, .int (nI i))]) hX dJx4a65c_remove_915e3_13 (by decide) rfl ?_
    refine Y_aload_n hX dJx4a65c_remove_915e3_14 0 rfl ?_
    refine Y_iload_n hX dJx4a65c_remove_915e3_15 2 rfl ?_
    refine Y_aaldO (v := none) 1 0 hX rfl rfl (vp_in_nI (by omega) (by omega)) (by rw [nI_clamp (by omega)]; exact hv) dJx4a65c_remove_915e3_16 ?_
    show Y X S K A 0 0 [hdC b el mod (nI (m + 1)), [(el, .inl (K.1 2, cap, .inr (.inr (.inr (.inr (elF es))))))], ww] 17 [(2, .ref el), (0, .ref b), (1, .int (nI i))] [.null]
    refine Y_astore_nN (lv' := [(3, .null), (2, .ref el), (0, .ref b), (1, .int (nI i))]) hX dJx4a65c_remove_915e3_17 (by decide) rfl ?_
    refine Y_aload_n hX dJx4a65c_remove_915e3_18 2 rfl ?_
    refine Y_aload_n hX dJx4a65c_remove_915e3_19 1 rfl ?_
    refine Y_iload_n hX dJx4a65c_remove_915e3_20 3 rfl ?_
    refine Y_resv hX (sub := [hdC b el mod (nI (m + 1)), [(el, .inl (K.1 2, cap, .inr (.inr (.inr (.inr (elF es))))))], ww]) (rst := []) rfl (Y_runV (b := 0) (i := 0) (As := [.ref el, .int (nI i)]) (rest := []) hX hE2 mk_Jx4a65c_144 nkY_Jx4a65c_fastRemove_b59b0 hE (cY_Jx4a65c_fastRemove_b59b0 hE hF b el cap mod es m hm hc hc2 i hi ww hk) rfl Ecall.same rfl rfl rfl ⟨rfl, rfl⟩ ⟨Nat.le_of_ble_eq_true rfl, Nat.le_of_ble_eq_true rfl⟩ rfl rfl (Nat.le_of_ble_eq_true rfl) dJx4a65c_remove_915e3_21 ⟨Nat.le_of_ble_eq_true rfl, Nat.le_of_ble_eq_true rfl⟩) (fun u21 => ?_)
    show Y X S K A 0 0 [hdC b el (mod + 1) (nI m), [(el, .inl (K.1 2, cap, .inr (.inr (.inr (.inr (elF (es.eraseIdx i)))))))], ww] 24 [(3, .null), (2, .ref el), (0, .ref b), (1, .int (nI i))] []
    refine Y_aload_nN hX dJx4a65c_remove_915e3_24 0 rfl ?_
    exact hR (fun _ => 0) _ _ dJx4a65c_remove_915e3_25
  | some y =>
    refine y_metq (own := RJx4a65c) (.inl ⟨_, rfl⟩) (by decide +kernel) rfl (Nat.le_of_ble_eq_true rfl) hE (fun X A hX hE2 hI hR => ?_)
    show Y X S K A 0 0 [hdC b el mod (nI (m + 1)), [(el, .inl (K.1 2, cap, .inr (.inr (.inr (.inr (elF es))))))], ww] 0 [(0, .ref b), (1, .int (nI i))] []
    refine Y_iload_n hX dJx4a65c_remove_915e3_0 1 rfl ?_
    refine Y_aload_n hX dJx4a65c_remove_915e3_1 0 rfl ?_
    refine Y_get 0 0 hX fk_Jx4a65c_48 rfl rfl rfl dJx4a65c_remove_915e3_2 ?_
    refine Y_resi hX (sub := []) (rst := [hdC b el mod (nI (m + 1)), [(el, .inl (K.1 2, cap, .inr (.inr (.inr (.inr (elF es))))))], ww]) rfl (Y_runS (As := [.int (nI i), .int (nI (m + 1))]) (rest := []) hX hE2 mk_Jx4a65c_118 nkY_J15_checkIndex_7cf53 hE (cY_J15_checkIndex_7cf53 hE hF i (m + 1) (by omega) (by omega)) rfl Ecall.same ⟨rfl, rfl⟩ ⟨Nat.le_of_ble_eq_true rfl, Nat.le_of_ble_eq_true rfl⟩ rfl rfl (Nat.le_of_ble_eq_true rfl) dJx4a65c_remove_915e3_5 ⟨Nat.le_of_ble_eq_true rfl, Nat.le_of_ble_eq_true rfl⟩) (fun u5 => ?_)
    show Y X S K A 0 0 [hdC b el mod (nI (m + 1)), [(el, .inl (K.1 2, cap, .inr (.inr (.inr (.inr (elF es))))))], ww] 8 [(0, .ref b), (1, .int (nI i))] [.int (nI i)]
    refine Y_pop hX dJx4a65c_remove_915e3_8 rfl ?_
    refine Y_aload_n hX dJx4a65c_remove_915e3_9 0 rfl ?_
    refine Y_get 0 0 hX fk_Jx4a65c_9 rfl rfl rfl dJx4a65c_remove_915e3_10 ?_
    refine Y_astore_n (lv' := [(2, .ref el), (0, .ref b), (1, .int (nI i))]) hX dJx4a65c_remove_915e3_13 (by decide) rfl ?_
    refine Y_aload_n hX dJx4a65c_remove_915e3_14 0 rfl ?_
    refine Y_iload_n hX dJx4a65c_remove_915e3_15 2 rfl ?_
    refine Y_aaldO (v := (some y)) 1 0 hX rfl rfl (vp_in_nI (by omega) (by omega)) (by rw [nI_clamp (by omega)]; exact hv) dJx4a65c_remove_915e3_16 ?_
    show Y X S K A 0 0 [hdC b el mod (nI (m + 1)), [(el, .inl (K.1 2, cap, .inr (.inr (.inr (.inr (elF es))))))], ww] 17 [(2, .ref el), (0, .ref b), (1, .int (nI i))] [.ref y]
    refine Y_astore_n (lv' := [(3, .ref y), (2, .ref el), (0, .ref b), (1, .int (nI i))]) hX dJx4a65c_remove_915e3_17 (by decide) rfl ?_
    refine Y_aload_n hX dJx4a65c_remove_915e3_18 2 rfl ?_
    refine Y_aload_n hX dJx4a65c_remove_915e3_19 1 rfl ?_
    refine Y_iload_n hX dJx4a65c_remove_915e3_20 3 rfl ?_
    refine Y_resv hX (sub := [hdC b el mod (nI (m + 1)), [(el, .inl (K.1 2, cap, .inr (.inr (.inr (.inr (elF es))))))], ww]) (rst := []) rfl (Y_runV (b := 0) (i := 0) (As := [.ref el, .int (nI i)]) (rest := []) hX hE2 mk_Jx4a65c_144 nkY_Jx4a65c_fastRemove_b59b0 hE (cY_Jx4a65c_fastRemove_b59b0 hE hF b el cap mod es m hm hc hc2 i hi ww hk) rfl Ecall.same rfl rfl rfl ⟨rfl, rfl⟩ ⟨Nat.le_of_ble_eq_true rfl, Nat.le_of_ble_eq_true rfl⟩ rfl rfl (Nat.le_of_ble_eq_true rfl) dJx4a65c_remove_915e3_21 ⟨Nat.le_of_ble_eq_true rfl, Nat.le_of_ble_eq_true rfl⟩) (fun u21 => ?_)
    show Y X S K A 0 0 [hdC b el (mod + 1) (nI m), [(el, .inl (K.1 2, cap, .inr (.inr (.inr (.inr (elF (es.eraseIdx i)))))))], ww] 24 [(3, .ref y), (2, .ref el), (0, .ref b), (1, .int (nI i))] []
    refine Y_aload_n hX dJx4a65c_remove_915e3_24 0 rfl ?_
    exact hR (fun _ => 0) _ _ dJx4a65c_remove_915e3_25
