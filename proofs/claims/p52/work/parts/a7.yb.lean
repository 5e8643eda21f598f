-- ===== minutes, take, leave: by the pictures =====
def misI (T : Tw) (q : Bl) : Int32 := mnIs (loudT T q (q 8))
theorem misI01 (T : Tw) (q : Bl) : misI T q = 0 ∨ misI T q = 1 := by unfold misI mnIs; split; exact .inl rfl; exact .inr rfl
theorem loud_b {T : Tw} {r : Int32} {n p N Kk : Nat} {q : Bl} (ok : okTw T n p N) (hr : RuOk T r) (hq : BlI q n p Kk) : loudI r (T 4 2) (T 4 3) (T 0) (tir q) (rop q) n (q 9) (q 10) = loudT T q (q 8) := by
  obtain ⟨s, s1, s2, s3⟩ := hq.2.1
  have hn := ok.1
  rw [s3]
  exact loud_eq hn s1 hr q (fun j hj => by show (if j < 8 then bt (q 8) j else 0) = _; rw [if_pos (by omega), s3])
theorem cB_X12_minute {S : Sx} {K : Kx} {E : Ex} (hE : Stb E) (hF : ∀ (A : Nat → Prop) (s : State), E A s → KF S K A s s.heap) {T : Tw} {r : Int32} {n p N Kk : Nat} (q : Bl) (ok : okTw T n p N) (hr : RuOk T r) (hq : BlI q n p Kk) (a b ra rb : Nat → Nat) : CY S K E yX12_minute cX12_minute 9 (some .boolean) rmY_X12_minute [.ref (b 0), .ref (a 0)] [stB S n p a q, bnC S K n p b ra rb (T 4 2) (T 4 3) (T 4 4) r, rwC S n ra (T 0) (T 1), rwC S p rb (T 2) (T 3)] (QYi S [stB S n p a q, bnC S K n p b ra rb (T 4 2) (T 4 3) (T 4 4) r, rwC S n ra (T 0) (T 1), rwC S p rb (T 2) (T 3)] (misI T q) (fun _ => [stB S n p a (mi T q), bnC S K n p b ra rb (T 4 2) (T 4 3) (T 4 4) r, rwC S n ra (T 0) (T 1), rwC S p rb (T 2) (T 3)])) 1 8 := by
  have z := cY_X12_minute hE hF n p a (tir q) (rop q) (dou q) (q 9) (q 10) (q 11) (q 12) (q 13) (q 14) b ra rb (T 4 2) (T 4 3) (T 4 4) r (T 0) (T 1) (T 2) (T 3) ok.1 ok.2.1 (rop01 q) (dou01 q)
  rw [min_eq S a ok hr hq, loud_b ok hr hq] at z
  exact z
theorem itM_s (T : Tw) : ∀ k (q : Bl), itM T (k + 1) q = mi T (itM T k q) := by
  intro k
  induction k with
  | zero => intro q; rfl
  | succ k ih => intro q; rw [itM, ih (mi T q)]; rfl
def cntL (T : Tw) (q : Bl) : Nat → Int32
  | 0 => 0
  | k + 1 => if misI T (itM T k q) = 0 then cntL T q k else cntL T q k + 1
theorem cntL_eq (T : Tw) (q : Bl) : ∀ k, cntL T q k = itM T k q 11 - q 11 := by
  intro k
  induction k with
  | zero => show (0 : Int32) = q 11 - q 11; rw [Int32.sub_self]
  | succ k ih =>
    have e : itM T (k + 1) q 11 = if loudT T (itM T k q) ((itM T k q) 8) ≤ 0 then itM T k q 11 else itM T k q 11 + 1 := by rw [itM_s]; rfl
    rw [cntL, e, ih]
    unfold misI mnIs
    by_cases c : loudT T (itM T k q) ((itM T k q) 8) ≤ 0
    · rw [if_pos c, if_pos rfl, if_pos c]
    · rw [if_neg c, if_neg (by decide), if_neg c, Int32.sub_eq_add_neg, Int32.sub_eq_add_neg, Int32.add_assoc, Int32.add_comm (-q 11) 1, ← Int32.add_assoc]
theorem ix_of {x : Int32} {n : Nat} (h0 : ¬ x < 0) (h1 : ¬ nI n ≤ x) (hn : n ≤ 8) : ∃ j, j < n ∧ x = nI j := by
  rcases pk_ix x (n := n) (by omega) with h | h | h
  · exact absurd h h0
  · exact absurd h h1
  · exact h
theorem rop_at {q : Bl} {j : Nat} (h : j < 8) : rop q j = bt (q 8) j := if_pos h
theorem dou_at {q : Bl} {j : Nat} (h : j < 8) : dou q j = bt (q 15) j := if_pos h
theorem tir_at {q : Bl} {j : Nat} (h : j < 8) : tir q j = q j := if_pos h
theorem bits_b {q : Bl} {n p Kk : Nat} (hn : n ≤ 8) (hq : BlI q n p Kk) : bitsL (rop q) n = q 8 := by
  obtain ⟨s, s1, s2, s3⟩ := hq.2.1
  rw [bitsL_congr (g := fun k => bt (nI s) k) n (fun j hj => by rw [rop_at (by omega), s3]), s3]
  exact bitsL_bt n (by omega) s s1
theorem doubt_b {q : Bl} {n p Kk : Nat} (hp : p ≤ 8) (hq : BlI q n p Kk) : bitsL (dou q) p = q 15 := by
  obtain ⟨d, d1, d2⟩ := hq.2.2.2.1
  rw [bitsL_congr (g := fun k => bt (nI d) k) p (fun j hj => by rw [dou_at (by omega), d2]), d2]
  exact bitsL_bt p (by omega) d d1
theorem rope_set : ∀ s, s < 256 → ∀ j, j < 8 → (∀ i, i < 8 → bt (nI s ||| bit1 j) i = if i = j then 1 else bt (nI s) i) ∧ (∀ i, i < 8 → bt (nI s &&& (bit1 j ^^^ (-1))) i = if i = j then 0 else bt (nI s) i) := by decide +kernel
theorem rop_or {q : Bl} {s j : Nat} (e : q 8 = nI s) (hs : s < 256) (hj : j < 8) : upd (rop q) j 1 = rop (setR q (q 8 ||| bit1 j)) := by
  funext i
  unfold upd rop
  show (if i = j then (1 : Int32) else if i < 8 then bt (q 8) i else 0) = if i < 8 then bt (q 8 ||| bit1 j) i else 0
  by_cases h : i < 8
  · rw [if_pos h, if_pos h, e, (rope_set s hs j hj).1 i h]
  · rw [if_neg h, if_neg h, if_neg (by omega)]
theorem rop_clr {q : Bl} {s j : Nat} (e : q 8 = nI s) (hs : s < 256) (hj : j < 8) : upd (rop q) j 0 = rop (setR q (q 8 &&& (bit1 j ^^^ (-1)))) := by
  funext i
  unfold upd rop
  show (if i = j then (0 : Int32) else if i < 8 then bt (q 8) i else 0) = if i < 8 then bt (q 8 &&& (bit1 j ^^^ (-1))) i else 0
  by_cases h : i < 8
  · rw [if_pos h, if_pos h, e, (rope_set s hs j hj).2 i h]
  · rw [if_neg h, if_neg h, if_neg (by omega)]
theorem bc_not3 : ∀ s, s < 256 → pc s ≤ 3 → (¬ bc (nI s) = 3 → bc (nI s) < 3) ∧ (bc (nI s) = 3 → ¬ bc (nI s) < 3) := by decide +kernel
theorem stB_setR (S : Sx) (n p : Nat) (a : Nat → Nat) (q : Bl) (x : Int32) : stB S n p a (setR q x) = stC S n p a (tir q) (rop (setR q x)) (dou q) (q 9) (q 10) (q 11) (q 12) (q 13) (q 14) := by
  unfold stB
  rw [show tir (setR q x) = tir q from by
    funext k
    show (if k < 8 then (if k = 8 then x else q k) else 0) = if k < 8 then q k else 0
    by_cases h : k < 8
    · rw [if_pos h, if_pos h, if_neg (by omega)]
    · rw [if_neg h, if_neg h], show dou (setR q x) = dou q from rfl]
  rfl
abbrev rmY_X12_goes : Room := { frames := 3, cells := 64, slots := 512, locals := 78 }
set_option maxHeartbeats 4000000 in
theorem cY_X12_goes {S : Sx} {K : Kx} {E : Ex} (hE : Stb E) (hF : ∀ (A : Nat → Prop) (s : State), E A s → KF S K A s s.heap) {T : Tw} {r : Int32} {n p N Kk : Nat} (q : Bl) (ok : okTw T n p N) (hr : RuOk T r) (hq : BlI q n p Kk) (a b ra rb : Nat → Nat) (mm : Nat) (hm : mm ≤ 64) : CY S K E yX12_goes cX12_goes 5 (some .int) rmY_X12_goes [.ref (b 0), .ref (a 0), .int (nI mm)] ([stB S n p a q, bnC S K n p b ra rb (T 4 2) (T 4 3) (T 4 4) r, rwC S n ra (T 0) (T 1), rwC S p rb (T 2) (T 3)]) (QYi S ([stB S n p a q, bnC S K n p b ra rb (T 4 2) (T 4 3) (T 4 4) r, rwC S n ra (T 0) (T 1), rwC S p rb (T 2) (T 3)]) (cntL T q mm) (fun _ => [stB S n p a (itM T mm q), bnC S K n p b ra rb (T 4 2) (T 4 3) (T 4 4) r, rwC S n ra (T 0) (T 1), rwC S p rb (T 2) (T 3)])) 64 512 := by
  refine y_meti (own := RX12) (by decide +kernel) rfl (Nat.le_of_ble_eq_true rfl) hE (fun X A hX hE2 hI hR => ?_)
  show Y X S K A 0 0 [stB S n p a q, bnC S K n p b ra rb (T 4 2) (T 4 3) (T 4 4) r, rwC S n ra (T 0) (T 1), rwC S p rb (T 2) (T 3)] 0 [(0, .ref (b 0)), (1, .ref (a 0)), (2, .int (nI mm))] []
  have loop : ∀ (m k : Nat), k + m = mm → Y X S K A k (8 * k) [stB S n p a (itM T k q), bnC S K n p b ra rb (T 4 2) (T 4 3) (T 4 4) r, rwC S n ra (T 0) (T 1), rwC S p rb (T 2) (T 3)] 5 [(4, .int (nI k)), (3, .int (cntL T q k)), (2, .int (nI mm)), (1, .ref (a 0)), (0, .ref (b 0))] [] := by
    intro m
    induction m with
    | zero =>
      intro k hk
      obtain hk2 : k = mm := by omega
      rw [hk2]
      refine Y_wd (kc' := 64) (kn' := 512) (by omega) (by omega) ?_
      refine Y_iload hX dX12_goes_5 0 rfl ?_
      refine Y_iload_n hX dX12_goes_7 2 rfl ?_
      refine Y_icmp_ge (tgt := 28) hX dX12_goes_8 (by decide) (fun _ => ?_) (fun z => absurd (nI_le (Nat.le_refl _) (by omega)) z)
      refine Y_iload_n hX dX12_goes_28 1 rfl ?_
      exact hR (fun _ => 0) _ _ rfl dX12_goes_29
    | succ m ih =>
      intro k hk
      refine Y_iload hX dX12_goes_5 0 rfl ?_
      refine Y_iload_n hX dX12_goes_7 2 rfl ?_
      refine Y_icmp_ge (tgt := 28) hX dX12_goes_8 (by decide) (fun z => absurd z (nI_ge (show k < mm by omega) (by omega))) (fun _ => ?_)
      refine Y_aload_n hX dX12_goes_11 4 rfl ?_
      refine Y_aload_n hX dX12_goes_12 3 rfl ?_
      refine Y_resi hX (sub := [stB S n p a (itM T k q), bnC S K n p b ra rb (T 4 2) (T 4 3) (T 4 4) r, rwC S n ra (T 0) (T 1), rwC S p rb (T 2) (T 3)]) (rst := []) rfl (Y_runV (b := 1) (i := 0) (As := [.ref (a 0)]) (rest := []) hX hE2 mk_X12_127 nkY_X12_minute hE (cB_X12_minute hE hF (itM T k q) ok hr (BlI_it ok k Kk q hq) a b ra rb) rfl Ecall.same rfl rfl rfl ⟨rfl, rfl⟩ ⟨Nat.le_of_ble_eq_true rfl, Nat.le_of_ble_eq_true rfl⟩ rfl rfl (Nat.le_of_ble_eq_true rfl) dX12_goes_13 ⟨by show k + 1 ≤ 64; omega, by show 8 * k + 8 ≤ 512; omega⟩) (fun u13 => ?_)
      show Y X S K A (k + 1) (8 * k + 8) [stB S n p a (mi T (itM T k q)), bnC S K n p b ra rb (T 4 2) (T 4 3) (T 4 4) r, rwC S n ra (T 0) (T 1), rwC S p rb (T 2) (T 3)] 16 [(4, .int (nI k)), (3, .int (cntL T q k)), (2, .int (nI mm)), (1, .ref (a 0)), (0, .ref (b 0))] [.int (misI T (itM T k q))]
      refine Y_if_eq (tgt := 22) hX dX12_goes_16 (by decide) (fun h16 => ?_) (fun h16 => ?_)
      · refine Y_iinc (v := nI (k + 1)) (lv' := [(4, .int (nI (k + 1))), (3, .int (cntL T q k)), (2, .int (nI mm)), (1, .ref (a 0)), (0, .ref (b 0))]) hX dX12_goes_22 (j := 0) rfl (by decide) (iinc1 k) rfl ?_
        refine Y_goto (tgt := 5) hX dX12_goes_25 (by decide) ?_
        have z := ih (k + 1) (by omega)
        rw [show cntL T q (k + 1) = cntL T q k from if_pos h16, itM_s] at z
        exact Y_wd (by omega) (by omega) z
      · refine Y_iinc (v := cntL T q k + 1) (lv' := [(3, .int (cntL T q k + 1)), (4, .int (nI k)), (2, .int (nI mm)), (1, .ref (a 0)), (0, .ref (b 0))]) hX dX12_goes_19 (j := 1) rfl (by decide) rfl rfl ?_
        refine Y_iinc (v := nI (k + 1)) (lv' := [(4, .int (nI (k + 1))), (3, .int (cntL T q k + 1)), (2, .int (nI mm)), (1, .ref (a 0)), (0, .ref (b 0))]) hX dX12_goes_22 (j := 1) rfl (by decide) (iinc1 k) rfl ?_
        refine Y_goto (tgt := 5) hX dX12_goes_25 (by decide) ?_
        have z := ih (k + 1) (by omega)
        rw [show cntL T q (k + 1) = cntL T q k + 1 from if_neg h16, itM_s] at z
        exact Y_wd (by omega) (by omega) z
  refine Y_iconst (v := 0) hX dX12_goes_0 (by decide) ?_
  refine Y_istore_n (lv' := [(3, .int 0), (0, .ref (b 0)), (1, .ref (a 0)), (2, .int (nI mm))]) hX dX12_goes_1 (by decide) rfl ?_
  refine Y_iconst (v := 0) hX dX12_goes_2 (by decide) ?_
  refine Y_istore (lv' := [(4, .int 0), (3, .int 0), (0, .ref (b 0)), (1, .ref (a 0)), (2, .int (nI mm))]) hX dX12_goes_3 (by decide) rfl ?_
  refine Y_sub (lv' := [(4, .int 0), (3, .int 0), (2, .int (nI mm)), (1, .ref (a 0)), (0, .ref (b 0))]) [0, 1, 4, 3, 2] rfl ?_
  exact loop mm 0 (by omega)
abbrev rmY_X12_take : Room := { frames := 1, cells := 0, slots := 0, locals := 22 }
set_option maxHeartbeats 4000000 in
theorem cY_X12_take {S : Sx} {K : Kx} {E : Ex} (hE : Stb E) (hF : ∀ (A : Nat → Prop) (s : State), E A s → KF S K A s s.heap) {T : Tw} {r : Int32} {n p N Kk : Nat} (q : Bl) (ok : okTw T n p N) (hr : RuOk T r) (hq : BlI q n p Kk) (a b ra rb : Nat → Nat) (x : Int32) : CY S K E yX12_take cX12_take 3 (some .int) rmY_X12_take [.ref (b 0), .ref (a 0), .int x] ([stB S n p a q, bnC S K n p b ra rb (T 4 2) (T 4 3) (T 4 4) r]) (QYi S ([stB S n p a q, bnC S K n p b ra rb (T 4 2) (T 4 3) (T 4 4) r]) ((tkP n q x).1) (fun _ => [stB S n p a ((tkP n q x).2), bnC S K n p b ra rb (T 4 2) (T 4 3) (T 4 4) r])) 0 0 := by
  obtain ⟨s, s1, s2, s3⟩ := id hq.2.1
  have s8 := p256 ok.1 s1
  have hn := ok.1
  have h3 := bc_not3 s s8 s2
  rw [← s3] at h3
  have hq2 : ∀ j, j < n → bt (q 8) j = 0 → bc (q 8) < 3 → BlI (setR q (q 8 ||| bit1 j)) n p Kk := fun j hj e1 e2 => by
    have e : tkP n q (nI j) = (bc (q 8 ||| bit1 j), setR q (q 8 ||| bit1 j)) := by unfold tkP; rw [if_neg (nI_pos (by omega)), if_neg (nI_ge hj (by omega)), nI_clamp (by omega), if_pos e1, if_pos e2]
    have z := BlI_tk ok.1 hq (nI j)
    rw [e] at z
    exact z
  refine y_meti (own := RX12) (by decide +kernel) rfl (Nat.le_of_ble_eq_true rfl) hE (fun X A hX hE2 hI hR => ?_)
  show Y X S K A 0 0 [stB S n p a q, bnC S K n p b ra rb (T 4 2) (T 4 3) (T 4 4) r] 0 [(0, .ref (b 0)), (1, .ref (a 0)), (2, .int x)] []
  refine Y_iload_n hX dX12_take_0 2 rfl ?_
  refine Y_if_lt (tgt := 13) hX dX12_take_1 (by decide) (fun h1 => ?_) (fun h1 => ?_)
  · refine Y_iconst (v := (-1)) hX dX12_take_13 (by decide) ?_
    have e : tkP n q x = (-1, q) := by unfold tkP; rw [if_pos h1]
    rw [e] at hR
    exact hR (fun _ => 0) _ _ rfl dX12_take_14
  · refine Y_iload_n hX dX12_take_4 2 rfl ?_
    refine Y_aload_n hX dX12_take_5 0 rfl ?_
    refine Y_get 1 0 hX fk_X12_73 rfl rfl rfl dX12_take_6 ?_
    refine Y_alen (t0 := 5) (v := nI n) 1 1 hX rfl rfl rfl rfl dX12_take_9 ?_
    refine Y_icmp_lt (tgt := 15) hX dX12_take_10 (by decide) (fun h10 => ?_) (fun h10 => ?_)
    · replace h10 : ¬ nI n ≤ x := Int32.not_le.mpr h10
      obtain ⟨j, hj, rfl⟩ := ix_of h1 h10 ok.1
      refine Y_aload_n hX dX12_take_15 1 rfl ?_
      refine Y_get 0 0 hX fk_X12_77 rfl rfl rfl dX12_take_16 ?_
      refine Y_iload_n hX dX12_take_19 2 rfl ?_
      refine Y_zald (v := bt (q 8) j) 0 2 hX rfl rfl (vp_in_nI hj (by omega)) (by rw [nI_clamp (by omega)]; exact rop_at (by omega)) dX12_take_20 ?_
      refine Y_if_eq (tgt := 27) hX dX12_take_21 (by decide) (fun h21 => ?_) (fun h21 => ?_)
      · refine Y_aload_n hX dX12_take_27 1 rfl ?_
        refine Y_resi hX (sub := [stB S n p a q]) (rst := [bnC S K n p b ra rb (T 4 2) (T 4 3) (T 4 4) r]) rfl (Y_runV (b := 0) (i := 0) (As := []) (rest := []) hX hE2 mk_X12_131 nkY_X11_bits hE (cY_X11_bits hE hF n p a (tir q) (rop q) (dou q) (q 9) (q 10) (q 11) (q 12) (q 13) (q 14) ok.1 ok.2.1) rfl Ecall.same rfl rfl rfl ⟨rfl, rfl⟩ ⟨Nat.le_of_ble_eq_true rfl, Nat.le_of_ble_eq_true rfl⟩ rfl rfl (Nat.le_of_ble_eq_true rfl) dX12_take_28 ⟨Nat.le_of_ble_eq_true rfl, Nat.le_of_ble_eq_true rfl⟩) (fun u28 => ?_)
        show Y X S K A 0 0 [stB S n p a q, bnC S K n p b ra rb (T 4 2) (T 4 3) (T 4 4) r] 31 [(0, .ref (b 0)), (1, .ref (a 0)), (2, .int (nI j))] [.int (bitsL (rop q) n)]
        refine Y_eqi (x' := q 8) (bits_b ok.1 hq) ?_
        refine Y_resi hX (sub := []) (rst := [stB S n p a q, bnC S K n p b ra rb (T 4 2) (T 4 3) (T 4 4) r]) rfl (Y_runS (As := [.int (q 8)]) (rest := []) hX hE2 mk_X12_134 nkY_J6_bitCount_0f7a4 hE (cY_J6_bitCount_0f7a4 hE hF (q 8)) rfl Ecall.same ⟨rfl, rfl⟩ ⟨Nat.le_of_ble_eq_true rfl, Nat.le_of_ble_eq_true rfl⟩ rfl rfl (Nat.le_of_ble_eq_true rfl) dX12_take_31 ⟨Nat.le_of_ble_eq_true rfl, Nat.le_of_ble_eq_true rfl⟩) (fun u31 => ?_)
        show Y X S K A 0 0 [stB S n p a q, bnC S K n p b ra rb (T 4 2) (T 4 3) (T 4 4) r] 34 [(0, .ref (b 0)), (1, .ref (a 0)), (2, .int (nI j))] [.int (bc (q 8))]
        refine Y_iconst (v := 3) hX dX12_take_34 (by decide) ?_
        refine Y_icmp_ne (tgt := 41) hX dX12_take_35 (by decide) (fun h35 => ?_) (fun h35 => ?_)
        · refine Y_aload_n hX dX12_take_41 1 rfl ?_
          refine Y_get 0 0 hX fk_X12_77 rfl rfl rfl dX12_take_42 ?_
          refine Y_iload_n hX dX12_take_45 2 rfl ?_
          refine Y_iconst (v := 1) hX dX12_take_46 (by decide) ?_
          refine Y_zast 0 2 hX rfl rfl (vp_in_nI hj (by omega)) dX12_take_47 ?_
          show Y X S K A 0 0 [[(a 0, .inr (13, [.ref (a 1), .ref (a 2), .int (q 9), .int (q 10), .int (q 11), .int (q 12), .int (q 13), .int (q 14), .ref (a 3)])), (a 1, .inl (cAr S 0, n, .inl (tir q))), (a 2, .inl (cAr S 2, n, .inl (upd (rop q) (nI j).toNatClampNeg (vp_nar .boolean 1)))), (a 3, .inl (cAr S 2, p, .inl (dou q)))], bnC S K n p b ra rb (T 4 2) (T 4 3) (T 4 4) r] 48 [(0, .ref (b 0)), (1, .ref (a 0)), (2, .int (nI j))] []
          rw [show (upd (rop q) (nI j).toNatClampNeg (vp_nar .boolean 1)) = rop (setR q (q 8 ||| bit1 j)) from by rw [nI_clamp (by omega)]; exact rop_or s3 s8 (by omega)]
          refine Y_aload_n hX dX12_take_48 1 rfl ?_
          refine Y_resi hX (sub := [[(a 0, .inr (13, [.ref (a 1), .ref (a 2), .int (q 9), .int (q 10), .int (q 11), .int (q 12), .int (q 13), .int (q 14), .ref (a 3)])), (a 1, .inl (cAr S 0, n, .inl (tir q))), (a 2, .inl (cAr S 2, n, .inl (rop (setR q (q 8 ||| bit1 j))))), (a 3, .inl (cAr S 2, p, .inl (dou q)))]]) (rst := [bnC S K n p b ra rb (T 4 2) (T 4 3) (T 4 4) r]) rfl (Y_runV (b := 0) (i := 0) (As := []) (rest := []) hX hE2 mk_X12_131 nkY_X11_bits hE (cY_X11_bits hE hF n p a (tir q) (rop (setR q (q 8 ||| bit1 j))) (dou q) (q 9) (q 10) (q 11) (q 12) (q 13) (q 14) ok.1 ok.2.1) rfl Ecall.same rfl rfl rfl ⟨rfl, rfl⟩ ⟨Nat.le_of_ble_eq_true rfl, Nat.le_of_ble_eq_true rfl⟩ rfl rfl (Nat.le_of_ble_eq_true rfl) dX12_take_49 ⟨Nat.le_of_ble_eq_true rfl, Nat.le_of_ble_eq_true rfl⟩) (fun u49 => ?_)
          show Y X S K A 0 0 [[(a 0, .inr (13, [.ref (a 1), .ref (a 2), .int (q 9), .int (q 10), .int (q 11), .int (q 12), .int (q 13), .int (q 14), .ref (a 3)])), (a 1, .inl (cAr S 0, n, .inl (tir q))), (a 2, .inl (cAr S 2, n, .inl (rop (setR q (q 8 ||| bit1 j))))), (a 3, .inl (cAr S 2, p, .inl (dou q)))], bnC S K n p b ra rb (T 4 2) (T 4 3) (T 4 4) r] 52 [(0, .ref (b 0)), (1, .ref (a 0)), (2, .int (nI j))] [.int (bitsL (rop (setR q (q 8 ||| bit1 j))) n)]
          refine Y_eqi (x' := setR q (q 8 ||| bit1 j) 8) (bits_b ok.1 (hq2 j hj h21 (h3.1 h35))) ?_
          refine Y_resi hX (sub := []) (rst := [[(a 0, .inr (13, [.ref (a 1), .ref (a 2), .int (q 9), .int (q 10), .int (q 11), .int (q 12), .int (q 13), .int (q 14), .ref (a 3)])), (a 1, .inl (cAr S 0, n, .inl (tir q))), (a 2, .inl (cAr S 2, n, .inl (rop (setR q (q 8 ||| bit1 j))))), (a 3, .inl (cAr S 2, p, .inl (dou q)))], bnC S K n p b ra rb (T 4 2) (T 4 3) (T 4 4) r]) rfl (Y_runS (As := [.int (setR q (q 8 ||| bit1 j) 8)]) (rest := []) hX hE2 mk_X12_134 nkY_J6_bitCount_0f7a4 hE (cY_J6_bitCount_0f7a4 hE hF (q 8 ||| bit1 j)) rfl Ecall.same ⟨rfl, rfl⟩ ⟨Nat.le_of_ble_eq_true rfl, Nat.le_of_ble_eq_true rfl⟩ rfl rfl (Nat.le_of_ble_eq_true rfl) dX12_take_52 ⟨Nat.le_of_ble_eq_true rfl, Nat.le_of_ble_eq_true rfl⟩) (fun u52 => ?_)
          show Y X S K A 0 0 [[(a 0, .inr (13, [.ref (a 1), .ref (a 2), .int (q 9), .int (q 10), .int (q 11), .int (q 12), .int (q 13), .int (q 14), .ref (a 3)])), (a 1, .inl (cAr S 0, n, .inl (tir q))), (a 2, .inl (cAr S 2, n, .inl (rop (setR q (q 8 ||| bit1 j))))), (a 3, .inl (cAr S 2, p, .inl (dou q)))], bnC S K n p b ra rb (T 4 2) (T 4 3) (T 4 4) r] 55 [(0, .ref (b 0)), (1, .ref (a 0)), (2, .int (nI j))] [.int (bc (q 8 ||| bit1 j))]
          have e : tkP n q (nI j) = (bc (q 8 ||| bit1 j), setR q (q 8 ||| bit1 j)) := by unfold tkP; rw [if_neg h1, if_neg h10, nI_clamp (by omega), if_pos h21, if_pos (h3.1 h35)]
          rw [e] at hR
          refine Y_bl (bl' := [stB S n p a (setR q (q 8 ||| bit1 j)), bnC S K n p b ra rb (T 4 2) (T 4 3) (T 4 4) r]) (by rw [stB_setR]; rfl) ?_
          exact hR (fun _ => 0) _ _ rfl dX12_take_55
        · have h35b : bc (q 8) = 3 := h35
          refine Y_bipush (v := (-3)) hX dX12_take_38 (by decide) ?_
          have e : tkP n q (nI j) = (-3, q) := by unfold tkP; rw [if_neg h1, if_neg h10, nI_clamp (by omega), if_pos h21, if_neg (h3.2 h35)]
          rw [e] at hR
          exact hR (fun _ => 0) _ _ rfl dX12_take_40
      · refine Y_bipush (v := (-2)) hX dX12_take_24 (by decide) ?_
        have e : tkP n q (nI j) = (-2, q) := by unfold tkP; rw [if_neg h1, if_neg h10, nI_clamp (by omega), if_neg h21]
        rw [e] at hR
        exact hR (fun _ => 0) _ _ rfl dX12_take_26
    · replace h10 : nI n ≤ x := Int32.not_lt.mp h10
      refine Y_iconst (v := (-1)) hX dX12_take_13 (by decide) ?_
      have e : tkP n q x = (-1, q) := by unfold tkP; rw [if_neg h1, if_pos h10]
      rw [e] at hR
      exact hR (fun _ => 0) _ _ rfl dX12_take_14
abbrev rmY_X12_leave : Room := { frames := 1, cells := 0, slots := 0, locals := 22 }
set_option maxHeartbeats 4000000 in
theorem cY_X12_leave {S : Sx} {K : Kx} {E : Ex} (hE : Stb E) (hF : ∀ (A : Nat → Prop) (s : State), E A s → KF S K A s s.heap) {T : Tw} {r : Int32} {n p N Kk : Nat} (q : Bl) (ok : okTw T n p N) (hr : RuOk T r) (hq : BlI q n p Kk) (a b ra rb : Nat → Nat) (x : Int32) : CY S K E yX12_leave cX12_leave 3 (some .int) rmY_X12_leave [.ref (b 0), .ref (a 0), .int x] ([stB S n p a q, bnC S K n p b ra rb (T 4 2) (T 4 3) (T 4 4) r]) (QYi S ([stB S n p a q, bnC S K n p b ra rb (T 4 2) (T 4 3) (T 4 4) r]) ((lvP n q x).1) (fun _ => [stB S n p a ((lvP n q x).2), bnC S K n p b ra rb (T 4 2) (T 4 3) (T 4 4) r])) 0 0 := by
  obtain ⟨s, s1, s2, s3⟩ := id hq.2.1
  have s8 := p256 ok.1 s1
  have hn := ok.1
  have hq2 : ∀ j, j < n → ¬ bt (q 8) j = 0 → BlI (setR q (q 8 &&& (bit1 j ^^^ (-1)))) n p Kk := fun j hj e1 => by
    have e : lvP n q (nI j) = (bc (q 8 &&& (bit1 j ^^^ (-1))), setR q (q 8 &&& (bit1 j ^^^ (-1)))) := by unfold lvP; rw [if_neg (nI_pos (by omega)), if_neg (nI_ge hj (by omega)), nI_clamp (by omega), if_neg e1]
    have z := BlI_lv ok.1 hq (nI j)
    rw [e] at z
    exact z
  refine y_meti (own := RX12) (by decide +kernel) rfl (Nat.le_of_ble_eq_true rfl) hE (fun X A hX hE2 hI hR => ?_)
  show Y X S K A 0 0 [stB S n p a q, bnC S K n p b ra rb (T 4 2) (T 4 3) (T 4 4) r] 0 [(0, .ref (b 0)), (1, .ref (a 0)), (2, .int x)] []
  refine Y_iload_n hX dX12_leave_0 2 rfl ?_
  refine Y_if_lt (tgt := 13) hX dX12_leave_1 (by decide) (fun h1 => ?_) (fun h1 => ?_)
  · refine Y_iconst (v := (-1)) hX dX12_leave_13 (by decide) ?_
    have e : lvP n q x = (-1, q) := by unfold lvP; rw [if_pos h1]
    rw [e] at hR
    exact hR (fun _ => 0) _ _ rfl dX12_leave_14
  · refine Y_iload_n hX dX12_leave_4 2 rfl ?_
    refine Y_aload_n hX dX12_leave_5 0 rfl ?_
    refine Y_get 1 0 hX fk_X12_73 rfl rfl rfl dX12_leave_6 ?_
    refine Y_alen (t0 := 5) (v := nI n) 1 1 hX rfl rfl rfl rfl dX12_leave_9 ?_
    refine Y_icmp_lt (tgt := 15) hX dX12_leave_10 (by decide) (fun h10 => ?_) (fun h10 => ?_)
    · replace h10 : ¬ nI n ≤ x := Int32.not_le.mpr h10
      obtain ⟨j, hj, rfl⟩ := ix_of h1 h10 ok.1
      refine Y_aload_n hX dX12_leave_15 1 rfl ?_
      refine Y_get 0 0 hX fk_X12_77 rfl rfl rfl dX12_leave_16 ?_
      refine Y_iload_n hX dX12_leave_19 2 rfl ?_
      refine Y_zald (v := bt (q 8) j) 0 2 hX rfl rfl (vp_in_nI hj (by omega)) (by rw [nI_clamp (by omega)]; exact rop_at (by omega)) dX12_leave_20 ?_
      refine Y_if_ne (tgt := 27) hX dX12_leave_21 (by decide) (fun h21 => ?_) (fun h21 => ?_)
      · refine Y_aload_n hX dX12_leave_27 1 rfl ?_
        refine Y_get 0 0 hX fk_X12_77 rfl rfl rfl dX12_leave_28 ?_
        refine Y_iload_n hX dX12_leave_31 2 rfl ?_
        refine Y_iconst (v := 0) hX dX12_leave_32 (by decide) ?_
        refine Y_zast 0 2 hX rfl rfl (vp_in_nI hj (by omega)) dX12_leave_33 ?_
        show Y X S K A 0 0 [[(a 0, .inr (13, [.ref (a 1), .ref (a 2), .int (q 9), .int (q 10), .int (q 11), .int (q 12), .int (q 13), .int (q 14), .ref (a 3)])), (a 1, .inl (cAr S 0, n, .inl (tir q))), (a 2, .inl (cAr S 2, n, .inl (upd (rop q) (nI j).toNatClampNeg (vp_nar .boolean 0)))), (a 3, .inl (cAr S 2, p, .inl (dou q)))], bnC S K n p b ra rb (T 4 2) (T 4 3) (T 4 4) r] 34 [(0, .ref (b 0)), (1, .ref (a 0)), (2, .int (nI j))] []
        rw [show (upd (rop q) (nI j).toNatClampNeg (vp_nar .boolean 0)) = rop (setR q (q 8 &&& (bit1 j ^^^ (-1)))) from by rw [nI_clamp (by omega)]; exact rop_clr s3 s8 (by omega)]
        refine Y_aload_n hX dX12_leave_34 1 rfl ?_
        refine Y_resi hX (sub := [[(a 0, .inr (13, [.ref (a 1), .ref (a 2), .int (q 9), .int (q 10), .int (q 11), .int (q 12), .int (q 13), .int (q 14), .ref (a 3)])), (a 1, .inl (cAr S 0, n, .inl (tir q))), (a 2, .inl (cAr S 2, n, .inl (rop (setR q (q 8 &&& (bit1 j ^^^ (-1))))))), (a 3, .inl (cAr S 2, p, .inl (dou q)))]]) (rst := [bnC S K n p b ra rb (T 4 2) (T 4 3) (T 4 4) r]) rfl (Y_runV (b := 0) (i := 0) (As := []) (rest := []) hX hE2 mk_X12_131 nkY_X11_bits hE (cY_X11_bits hE hF n p a (tir q) (rop (setR q (q 8 &&& (bit1 j ^^^ (-1))))) (dou q) (q 9) (q 10) (q 11) (q 12) (q 13) (q 14) ok.1 ok.2.1) rfl Ecall.same rfl rfl rfl ⟨rfl, rfl⟩ ⟨Nat.le_of_ble_eq_true rfl, Nat.le_of_ble_eq_true rfl⟩ rfl rfl (Nat.le_of_ble_eq_true rfl) dX12_leave_35 ⟨Nat.le_of_ble_eq_true rfl, Nat.le_of_ble_eq_true rfl⟩) (fun u35 => ?_)
        show Y X S K A 0 0 [[(a 0, .inr (13, [.ref (a 1), .ref (a 2), .int (q 9), .int (q 10), .int (q 11), .int (q 12), .int (q 13), .int (q 14), .ref (a 3)])), (a 1, .inl (cAr S 0, n, .inl (tir q))), (a 2, .inl (cAr S 2, n, .inl (rop (setR q (q 8 &&& (bit1 j ^^^ (-1))))))), (a 3, .inl (cAr S 2, p, .inl (dou q)))], bnC S K n p b ra rb (T 4 2) (T 4 3) (T 4 4) r] 38 [(0, .ref (b 0)), (1, .ref (a 0)), (2, .int (nI j))] [.int (bitsL (rop (setR q (q 8 &&& (bit1 j ^^^ (-1))))) n)]
        refine Y_eqi (x' := setR q (q 8 &&& (bit1 j ^^^ (-1))) 8) (bits_b ok.1 (hq2 j hj h21)) ?_
        refine Y_resi hX (sub := []) (rst := [[(a 0, .inr (13, [.ref (a 1), .ref (a 2), .int (q 9), .int (q 10), .int (q 11), .int (q 12), .int (q 13), .int (q 14), .ref (a 3)])), (a 1, .inl (cAr S 0, n, .inl (tir q))), (a 2, .inl (cAr S 2, n, .inl (rop (setR q (q 8 &&& (bit1 j ^^^ (-1))))))), (a 3, .inl (cAr S 2, p, .inl (dou q)))], bnC S K n p b ra rb (T 4 2) (T 4 3) (T 4 4) r]) rfl (Y_runS (As := [.int (setR q (q 8 &&& (bit1 j ^^^ (-1))) 8)]) (rest := []) hX hE2 mk_X12_134 nkY_J6_bitCount_0f7a4 hE (cY_J6_bitCount_0f7a4 hE hF (q 8 &&& (bit1 j ^^^ (-1)))) rfl Ecall.same ⟨rfl, rfl⟩ ⟨Nat.le_of_ble_eq_true rfl, Nat.le_of_ble_eq_true rfl⟩ rfl rfl (Nat.le_of_ble_eq_true rfl) dX12_leave_38 ⟨Nat.le_of_ble_eq_true rfl, Nat.le_of_ble_eq_true rfl⟩) (fun u38 => ?_)
        show Y X S K A 0 0 [[(a 0, .inr (13, [.ref (a 1), .ref (a 2), .int (q 9), .int (q 10), .int (q 11), .int (q 12), .int (q 13), .int (q 14), .ref (a 3)])), (a 1, .inl (cAr S 0, n, .inl (tir q))), (a 2, .inl (cAr S 2, n, .inl (rop (setR q (q 8 &&& (bit1 j ^^^ (-1))))))), (a 3, .inl (cAr S 2, p, .inl (dou q)))], bnC S K n p b ra rb (T 4 2) (T 4 3) (T 4 4) r] 41 [(0, .ref (b 0)), (1, .ref (a 0)), (2, .int (nI j))] [.int (bc (q 8 &&& (bit1 j ^^^ (-1))))]
        have e : lvP n q (nI j) = (bc (q 8 &&& (bit1 j ^^^ (-1))), setR q (q 8 &&& (bit1 j ^^^ (-1)))) := by unfold lvP; rw [if_neg h1, if_neg h10, nI_clamp (by omega), if_neg h21]
        rw [e] at hR
        refine Y_bl (bl' := [stB S n p a (setR q (q 8 &&& (bit1 j ^^^ (-1)))), bnC S K n p b ra rb (T 4 2) (T 4 3) (T 4 4) r]) (by rw [stB_setR]; rfl) ?_
        exact hR (fun _ => 0) _ _ rfl dX12_leave_41
      · refine Y_bipush (v := (-2)) hX dX12_leave_24 (by decide) ?_
        have e : lvP n q (nI j) = (-2, q) := by unfold lvP; rw [if_neg h1, if_neg h10, nI_clamp (by omega), if_pos h21]
        rw [e] at hR
        exact hR (fun _ => 0) _ _ rfl dX12_leave_26
    · replace h10 : nI n ≤ x := Int32.not_lt.mp h10
      refine Y_iconst (v := (-1)) hX dX12_leave_13 (by decide) ?_
      have e : lvP n q x = (-1, q) := by unfold lvP; rw [if_neg h1, if_pos h10]
      rw [e] at hR
      exact hR (fun _ => 0) _ _ rfl dX12_leave_14
