-- ===== the class's calls, the count of what was called left out =====
def CQ (w : Wd) (T : Tw) (b : Bl) (r p : Nat) (u : Us) (t : Nat → Int32) (n : Nat) (L : List Int64) : Prop := ∃ K, CJ w T b r p K u t n L
theorem lg_self (x : Int64) : lg_cmp x x = 0 := by
  unfold lg_cmp
  simp
section QCALLS
variable {w : Wd} {T : Tw} {b : Bl} {r p : Nat} {u : Us} {t : Nat → Int32} {n : Nat} {L : List Int64}
theorem q_ok (h : CQ w T b r p u t n L) : ∃ N K, okTw T r p N ∧ BlI b r p K := by
  obtain ⟨K, N, c, f, kp, h1, h2⟩ := h
  exact ⟨N, K, h2.1, h2.2.1⟩
theorem q_u (h : CQ w T b r p u t n L) : ∃ K, ∀ x ∈ u, BlI x r p K := by
  obtain ⟨K, N, c, f, kp, h1, h2⟩ := h
  exact ⟨K, h2.2.2.1⟩
theorem q_t {t2 : Nat → Int32} (h : CQ w T b r p u t n L) (e : ∀ k, k < n → t k = t2 k) : CQ w T b r p u t2 n L := h.imp fun _ z => CJ_t z e
theorem q_take (h : CQ w T b r p u t n L) (x : Int32) : ∃ w1, P_X10_take 10000 w x = some ((tkP r b x).1, w1) ∧ CQ w1 T (tkP r b x).2 r p (pshU (tkP r b x).1 b u) t n L := by
  obtain ⟨K, h⟩ := h
  obtain ⟨w1, e, g⟩ := k_take (F := 10000) (Nat.le_refl _) h x
  exact ⟨w1, e, _, g⟩
theorem q_leave (h : CQ w T b r p u t n L) (x : Int32) : ∃ w1, P_X10_leave 10000 w x = some ((lvP r b x).1, w1) ∧ CQ w1 T (lvP r b x).2 r p (pshU (lvP r b x).1 b u) t n L := by
  obtain ⟨K, h⟩ := h
  obtain ⟨w1, e, g⟩ := k_leave (F := 10000) (Nat.le_refl _) h x
  exact ⟨w1, e, _, g⟩
theorem q_mend (h : CQ w T b r p u t n L) (x : Int32) : ∃ w1, P_X10_mend 10000 w x = some ((mnP b x).1, w1) ∧ CQ w1 T (mnP b x).2 r p (pshU (mnP b x).1 b u) t n L := by
  obtain ⟨K, h⟩ := h
  obtain ⟨w1, e, g⟩ := k_mend (F := 10000) (Nat.le_refl _) h x
  exact ⟨w1, e, _, g⟩
theorem q_minutes (h : CQ w T b r p u t n L) (x : Int32) : ∃ w1, P_X10_minutes 10000 w x = some ((qMin T b x).1, w1) ∧ CQ w1 T (psP T b x).2 r p (pshU (psP T b x).1 b u) t n ((qMin T b x).2.getD L) := by
  obtain ⟨K, h⟩ := h
  obtain ⟨w1, e, g⟩ := k_minutes (F := 10000) (Nat.le_refl _) h x
  exact ⟨w1, e, _, g⟩
theorem q_watch (h : CQ w T b r p u t n L)  : ∃ w1, P_X10_watch 10000 w  = some ((qWatch T r b t n).1, w1) ∧ CQ w1 T (bWatch T r b t n) r p (uWatch T r b t n u) t 0 ((qWatch T r b t n).2.getD L) := by
  obtain ⟨K, h⟩ := h
  obtain ⟨w1, e, g⟩ := k_watch (F := 10000) (Nat.le_refl _) h 
  exact ⟨w1, e, _, g⟩
theorem q_undo (h : CQ w T b r p u t n L)  : ∃ w1, P_X10_undo 10000 w  = some (undA u, w1) ∧ CQ w1 T (undB u b) r p (undT u) t n L := by
  obtain ⟨K, h⟩ := h
  obtain ⟨w1, e, g⟩ := k_undo (F := 10000) (Nat.le_refl _) h 
  exact ⟨w1, e, _, g⟩
theorem q_sign (h : CQ w T b r p u t n L) (x : Int32) : ∃ w1, P_X10_sign 10000 w x = some (qSign n, w1) ∧ CQ w1 T b r p u (if n ≤ 76 then sgT t n x else t) (if n ≤ 76 then n + 4 else n) L := by
  obtain ⟨K, h⟩ := h
  obtain ⟨w1, e, g⟩ := k_sign (F := 10000) (Nat.le_refl _) h x
  exact ⟨w1, e, _, g⟩
theorem q_end (h : CQ w T b r p u t n L) (x : Int32) : ∃ w1, P_X10_end 10000 w x = some ((qEnd n x).1, w1) ∧ CQ w1 T b r p u t (qEnd n x).2 L := by
  obtain ⟨K, h⟩ := h
  obtain ⟨w1, e, g⟩ := k_end (F := 10000) (Nat.le_refl _) h x
  exact ⟨w1, e, _, g⟩
theorem q_set (h : CQ w T b r p u t n L) (x : Int32) (v : Int32) : ∃ w1, P_X10_set 10000 w x v = some ((qSet T x v).1, w1) ∧ CQ w1 (qSet T x v).2 b r p u t n L := by
  obtain ⟨K, h⟩ := h
  obtain ⟨w1, e, g⟩ := k_set (F := 10000) (Nat.le_refl _) h x v
  exact ⟨w1, e, _, g⟩
theorem q_sheet (h : CQ w T b r p u t n L) (x : Int32) (y : Int32) (z1 : Int32) (v : Int32) : ∃ w1, P_X10_sheet 10000 w x y z1 v = some ((qSheet r b x y z1 v).1, w1) ∧ CQ w1 T (qSheet r b x y z1 v).2 r p u t n L := by
  obtain ⟨K, h⟩ := h
  obtain ⟨w1, e, g⟩ := k_sheet (F := 10000) (Nat.le_refl _) h x y z1 v
  exact ⟨w1, e, _, g⟩
theorem q_ringers (h : CQ w T b r p u t n L)  : ∃ w1, P_X10_ringers 10000 w  = some (qEn t n r, w1) ∧ CQ w1 (addT T 0 r (lnE t n r) (fsP t n) (scP t n)) b (r + lnE t n r) p (if lnE t n r = 0 then u else []) t 0 L := by
  obtain ⟨K, h⟩ := h
  obtain ⟨w1, e, g⟩ := k_ringers (F := 10000) (Nat.le_refl _) h 
  exact ⟨w1, e, _, g⟩
theorem q_town (h : CQ w T b r p u t n L)  : ∃ w1, P_X10_town 10000 w  = some (qEn t n p, w1) ∧ CQ w1 (addT T 2 p (lnE t n p) (fsP t n) (scP t n)) b r (p + lnE t n p) (if lnE t n p = 0 then u else []) t 0 L := by
  obtain ⟨K, h⟩ := h
  obtain ⟨w1, e, g⟩ := k_town (F := 10000) (Nat.le_refl _) h 
  exact ⟨w1, e, _, g⟩
theorem q_ringer (h : CQ w T b r p u t n L) (x : Int32) (y : Int32) : ∃ w1, P_X10_ringer 10000 w x y = some (qRg T b r x y, w1) ∧ CQ w1 T b r p u t n L := by
  obtain ⟨K, h⟩ := h
  obtain ⟨w1, e, g⟩ := k_ringer (F := 10000) (Nat.le_refl _) h x y
  exact ⟨w1, e, _, g⟩
theorem q_loud (h : CQ w T b r p u t n L)  : ∃ w1, P_X10_loud 10000 w = some (loudT T b (b 8), w1) ∧ CQ w1 T b r p u t n L := by
  obtain ⟨K, h⟩ := h
  obtain ⟨w1, e, g⟩ := k_loud (F := 10000) (Nat.le_refl _) h 
  exact ⟨w1, e, _, g⟩
theorem q_count (h : CQ w T b r p u t n L) (x v : Int32) (hv : ∀ c, qCount r p b T c u.length L.length n x = v) : ∃ w1, P_X10_count 10000 w x = some (v, w1) ∧ CQ w1 T b r p u t n L := by
  obtain ⟨K, h⟩ := h
  obtain ⟨c, e⟩ := k_count (F := 10000) h x
  exact ⟨w, by rw [e, hv c], K, h⟩
theorem q_person (h : CQ w T b r p u t n L) (x y : Int32) : ∃ w1, P_X10_person 10000 w x y = some (qPe T b p x y, w1) ∧ CQ w1 T b r p u t n L := ⟨w, k_person h.choose_spec x y, h⟩
theorem q_row (h : CQ w T b r p u t n L) (x : Int32) : ∃ w1, P_X10_row 10000 w x = some (qRow L x, w1) ∧ CQ w1 T b r p u t n L := ⟨w, k_row h.choose_spec x, h⟩
end QCALLS
section PURE
variable {r p : Nat} {b : Bl} {T : Tw} {c u l n : Nat}
theorem cnt_2 : qCount r p b T c u l n 2 = b 8 := by unfold qCount; rw [if_neg (by decide), if_neg (by decide), if_pos rfl]
theorem cnt_3 : qCount r p b T c u l n 3 = b 9 := by unfold qCount; rw [if_neg (by decide), if_neg (by decide), if_neg (by decide), if_pos rfl]
theorem cnt_4 : qCount r p b T c u l n 4 = b 10 := by unfold qCount; rw [if_neg (by decide), if_neg (by decide), if_neg (by decide), if_neg (by decide), if_pos rfl]
theorem cnt_5 : qCount r p b T c u l n 5 = b 11 := by unfold qCount; rw [if_neg (by decide), if_neg (by decide), if_neg (by decide), if_neg (by decide), if_neg (by decide), if_pos rfl]
theorem cnt_6 : qCount r p b T c u l n 6 = b 12 := by unfold qCount; rw [if_neg (by decide), if_neg (by decide), if_neg (by decide), if_neg (by decide), if_neg (by decide), if_neg (by decide), if_pos rfl]
theorem cnt_7 : qCount r p b T c u l n 7 = b 13 := by unfold qCount; rw [if_neg (by decide), if_neg (by decide), if_neg (by decide), if_neg (by decide), if_neg (by decide), if_neg (by decide), if_neg (by decide), if_pos rfl]
theorem cnt_8 : qCount r p b T c u l n 8 = b 14 := by unfold qCount; rw [if_neg (by decide), if_neg (by decide), if_neg (by decide), if_neg (by decide), if_neg (by decide), if_neg (by decide), if_neg (by decide), if_neg (by decide), if_pos rfl]
theorem cnt_9 : qCount r p b T c u l n 9 = b 15 := by unfold qCount; rw [if_neg (by decide), if_neg (by decide), if_neg (by decide), if_neg (by decide), if_neg (by decide), if_neg (by decide), if_neg (by decide), if_neg (by decide), if_neg (by decide), if_pos rfl]
theorem cnt_14 : qCount r p b T c u l n 14 = nI u := by unfold qCount; rw [if_neg (by decide), if_neg (by decide), if_neg (by decide), if_neg (by decide), if_neg (by decide), if_neg (by decide), if_neg (by decide), if_neg (by decide), if_neg (by decide), if_neg (by decide), if_neg (by decide), if_neg (by decide), if_neg (by decide), if_neg (by decide), if_pos rfl]
theorem cnt_15 : qCount r p b T c u l n 15 = nI l := by unfold qCount; rw [if_neg (by decide), if_neg (by decide), if_neg (by decide), if_neg (by decide), if_neg (by decide), if_neg (by decide), if_neg (by decide), if_neg (by decide), if_neg (by decide), if_neg (by decide), if_neg (by decide), if_neg (by decide), if_neg (by decide), if_neg (by decide), if_neg (by decide), if_pos rfl]
theorem rg_2 {k : Nat} (hk : k < r) (hr : r ≤ 8) : qRg T b r (nI k) 2 = some (b k) := by unfold qRg; rw [if_neg (nI_pos (by omega)), if_neg (nI_ge hk (by omega)), if_neg (by decide), if_neg (by decide), if_pos rfl, nI_clamp (by omega)]
theorem rg_3 {k : Nat} (hk : k < r) (hr : r ≤ 8) : qRg T b r (nI k) 3 = some (bt (b 8) k) := by unfold qRg; rw [if_neg (nI_pos (by omega)), if_neg (nI_ge hk (by omega)), if_neg (by decide), if_neg (by decide), if_neg (by decide), if_pos rfl, nI_clamp (by omega)]
theorem rg_4 {k : Nat} (hk : k < r) (hr : r ≤ 8) : qRg T b r (nI k) 4 = some (loudT T b (bit1 k)) := by unfold qRg; rw [if_neg (nI_pos (by omega)), if_neg (nI_ge hk (by omega)), if_neg (by decide), if_neg (by decide), if_neg (by decide), if_neg (by decide), if_pos rfl, nI_clamp (by omega)]
theorem rg_out {y : Int32} (hr : r ≤ 8) : qRg T b r (nI r) y = none := by unfold qRg; rw [if_neg (nI_pos (by omega)), if_pos (nI_le (Nat.le_refl _) (by omega))]
theorem pe_2 {k : Nat} (hk : k < p) (hp : p ≤ 8) : qPe T b p (nI k) 2 = some (bt (b 15) k) := by unfold qPe; rw [if_neg (nI_pos (by omega)), if_neg (nI_ge hk (by omega)), if_neg (by decide), if_neg (by decide), if_pos rfl, nI_clamp (by omega)]
theorem pe_out {y : Int32} (hp : p ≤ 8) : qPe T b p (nI p) y = none := by unfold qPe; rw [if_neg (nI_pos (by omega)), if_pos (nI_le (Nat.le_refl _) (by omega))]
theorem row_k {L : List Int64} {k : Nat} (hk : k < L.length) (hL : L.length ≤ 2) : qRow L (nI k) = some (L.getD k 0) := by unfold qRow; rw [if_neg (nI_pos (by omega)), if_neg (nI_ge hk (by omega)), nI_clamp (by omega)]
theorem bt_only : ∀ k, k < 8 → ∀ j, j < 8 → bt (bit1 k) j = bt (nI (2 ^ k)) j := by decide +kernel
theorem loud_only {N Kk k : Nat} {x : Int32} (ok : okTw T r p N) (hr : RuOk T x) (hq : BlI b r p Kk) (hk : k < r) : loudI x (T 4 2) (T 4 3) (T 0) (tir b) (selF (bit1 k) (rop b) r) r (b 9) (b 10) = loudT T b (bit1 k) := by
  have hn := ok.1
  rw [bit1_p k (by omega)]
  exact loud_eq hn (Nat.pow_lt_pow_right (by decide) hk) hr b (fun j hj => if_pos hj)
end PURE
abbrev rmY_X12_isRow : Room := { frames := 9, cells := 2, slots := 12, locals := 192 }
set_option maxHeartbeats 4000000 in
theorem cY_X12_isRow {S : Sx} {K : Kx} {E : Ex} (hE : Stb E) (hF : ∀ (A : Nat → Prop) (s : State), E A s → KF S K A s s.heap) {w : Wd} {T : Tw} {q : Bl} {r p : Nat} {u : Us} {t : Nat → Int32} {nn : Nat} {L : List Int64} (h : CQ w T q r p u t nn L) (a m : Nat) (f : Nat → Int64) (hm : m ≤ 2) (hL : L.length = m) (hf : ∀ k, k < m → L.getD k 0 = f k) : CY S K E yX12_isRow cX12_isRow 3 (some .boolean) rmY_X12_isRow [rf S 0, .ref a] ([wsOf S w, [(a, .inl (cAr S 1, m, .inr (.inl f)))]]) (QEi S ([wsOf S w, [(a, .inl (cAr S 1, m, .inr (.inl f)))]]) 1 (fun v => CQ v.2.1 T q r p u t nn L) (fun v => [wsOf S v.2.1, [(a, .inl (cAr S 1, m, .inr (.inl f)))]])) 2 12 := by
  refine y_metEi (own := RX12) (by decide +kernel) rfl (Nat.le_of_ble_eq_true rfl) hE (fun X A hX hE2 hI hR => ?_)
  show Y X S K A 0 0 [wsOf S w, [(a, .inl (cAr S 1, m, .inr (.inl f)))]] 0 [(0, rf S 0), (1, .ref a)] []
  have loop : ∀ (j k : Nat), k + j = m → ∀ (w1 : Wd), CQ w1 T q r p u t nn L → Y X S K A k (6 * k) [wsOf S w1, [(a, .inl (cAr S 1, m, .inr (.inl f)))]] 15 [(2, .int (nI k)), (0, rf S 0), (1, .ref a)] [] := by
    intro j
    induction j with
    | zero =>
      intro k hk w1 g1
      obtain rfl : k = m := by omega
      refine Y_iload_n hX dX12_isRow_15 0 rfl ?_
      refine Y_aload_n hX dX12_isRow_16 2 rfl ?_
      refine Y_alen (t0 := 1) (v := nI k) 1 0 hX rfl rfl rfl rfl dX12_isRow_17 ?_
      refine Y_icmp_ge (tgt := 41) hX dX12_isRow_18 (by decide) (fun _ => ?_) (fun z => absurd (nI_le (Nat.le_refl _) (by omega)) z)
      refine Y_iconst (v := 1) hX dX12_isRow_41 (by decide) ?_
      refine Y_wd (kc' := 2) (kn' := 12) (by omega) (by omega) ?_
      exact hR (fun _ => 0, w1, T) _ _ g1 rfl dX12_isRow_42
    | succ j ih =>
      intro k hk w1 g1
      refine Y_iload_n hX dX12_isRow_15 0 rfl ?_
      refine Y_aload_n hX dX12_isRow_16 2 rfl ?_
      refine Y_alen (t0 := 1) (v := nI m) 1 0 hX rfl rfl rfl rfl dX12_isRow_17 ?_
      refine Y_icmp_ge (tgt := 41) hX dX12_isRow_18 (by decide) (fun z => absurd z (nI_ge (show k < m by omega) (by omega))) (fun _ => ?_)
      refine Y_aload_n hX dX12_isRow_21 1 rfl ?_
      refine Y_iload_n hX dX12_isRow_22 0 rfl ?_
      obtain ⟨w23, e23, g23⟩ := q_row g1 (nI k)
      rw [row_k (by omega) (by omega)] at e23
      refine Y_callWl (w2 := w23) (v := L.getD k 0) (As := [rf S 0, .int (nI k)]) (rest := []) hX hE2 hF mw_X12_46 nkY_X12_row (fun l hl => cW_X12_row l hl S e23) rfl ⟨rfl, rfl, Nat.le_of_ble_eq_true rfl, Nat.le_of_ble_eq_true rfl⟩ rfl rfl (Nat.le_of_ble_eq_true rfl) dX12_isRow_23 ⟨by show k + 1 ≤ 2; omega, by show 6 * k + 6 ≤ 12; omega⟩ ?_
      show Y X S K A (k + 1) (6 * k + 6) [wsOf S w23, [(a, .inl (cAr S 1, m, .inr (.inl f)))]] 26 [(2, .int (nI k)), (0, rf S 0), (1, .ref a)] [.long (L.getD k 0)]
      refine Y_aload_n hX dX12_isRow_26 2 rfl ?_
      refine Y_iload_n hX dX12_isRow_27 0 rfl ?_
      refine Y_lald (v := L.getD k 0) 1 0 hX rfl rfl (vp_in_nI (by omega) (by omega)) (by rw [nI_clamp (by omega)]; exact (hf k (by omega)).symm) dX12_isRow_28 ?_
      refine Y_lcmp hX dX12_isRow_29 ?_
      refine Y_eqi (x' := 0) (lg_self _) ?_
      refine Y_if_eq (tgt := 35) hX dX12_isRow_30 (by decide) (fun _ => ?_) (fun z => absurd (show (0 : Int32) = 0 from rfl) z)
      refine Y_iinc (v := nI (k + 1)) (lv' := [(2, .int (nI (k + 1))), (0, rf S 0), (1, .ref a)]) hX dX12_isRow_35 (j := 0) rfl (by decide) (iinc1 k) rfl ?_
      refine Y_goto (tgt := 15) hX dX12_isRow_38 (by decide) ?_
      have z := ih (k + 1) (by omega) w23 g23
      exact Y_wd (by omega) (by omega) z
  refine Y_aload_n hX dX12_isRow_0 0 rfl ?_
  refine Y_bipush (v := 15) hX dX12_isRow_1 (by decide) ?_
  obtain ⟨w3, e3, g3⟩ := q_count h 15 (nI m) (fun c => by rw [cnt_15, hL])
  refine Y_callCi (w2 := w3) (v := nI m) (As := [.int 15]) (rest := []) hX hE2 hF mk_X12_43 nk_X10_count (fun l => c_X10_count l S e3) rfl tb_0 rfl ⟨rfl, rfl, Nat.le_of_ble_eq_true rfl, Nat.le_of_ble_eq_true rfl⟩ rfl rfl (Nat.le_of_ble_eq_true rfl) dX12_isRow_3 ⟨Nat.le_of_ble_eq_true rfl, Nat.le_of_ble_eq_true rfl⟩ ?_
  show Y X S K A 0 0 [wsOf S w3, [(a, .inl (cAr S 1, m, .inr (.inl f)))]] 6 [(0, rf S 0), (1, .ref a)] [.int (nI m)]
  refine Y_aload_n hX dX12_isRow_6 1 rfl ?_
  refine Y_alen (t0 := 1) (v := nI m) 1 0 hX rfl rfl rfl rfl dX12_isRow_7 ?_
  refine Y_icmp_eq (tgt := 13) hX dX12_isRow_8 (by decide) (fun _ => ?_) (fun z => absurd (show nI m = nI m from rfl) z)
  refine Y_iconst (v := 0) hX dX12_isRow_13 (by decide) ?_
  refine Y_istore_n (lv' := [(2, .int 0), (0, rf S 0), (1, .ref a)]) hX dX12_isRow_14 (by decide) rfl ?_
  exact loop m 0 (by omega) w3 g3
abbrev rmY_X12_isAs : Room := { frames := 9, cells := 64, slots := 512, locals := 193 }
set_option maxHeartbeats 4000000 in
theorem cY_X12_isAs {S : Sx} {K : Kx} {E : Ex} (hE : Stb E) (hF : ∀ (A : Nat → Prop) (s : State), E A s → KF S K A s s.heap) {w : Wd} {T : Tw} {r : Int32} {n p : Nat} (q : Bl) {u : Us} {t : Nat → Int32} {nn : Nat} {L : List Int64} (h : CQ w T q n p u t nn L) (hr : RuOk T r) (a b ra rb : Nat → Nat) : CY S K E yX12_isAs cX12_isAs 4 (some .boolean) rmY_X12_isAs [.ref (b 0), rf S 0, .ref (a 0)] ([wsOf S w, stB S n p a q, bnC S K n p b ra rb (T 4 2) (T 4 3) (T 4 4) r, rwC S n ra (T 0) (T 1), rwC S p rb (T 2) (T 3)]) (QEi S ([wsOf S w, stB S n p a q, bnC S K n p b ra rb (T 4 2) (T 4 3) (T 4 4) r, rwC S n ra (T 0) (T 1), rwC S p rb (T 2) (T 3)]) 1 (fun v => CQ v.2.1 T q n p u t nn L) (fun v => [wsOf S v.2.1, stB S n p a q, bnC S K n p b ra rb (T 4 2) (T 4 3) (T 4 4) r, rwC S n ra (T 0) (T 1), rwC S p rb (T 2) (T 3)])) 64 512 := by
  obtain ⟨N, Kk, ok, hq⟩ := q_ok h
  have hn := ok.1
  have hp := ok.2.1
  refine y_metEi (own := RX12) (by decide +kernel) rfl (Nat.le_of_ble_eq_true rfl) hE (fun X A hX hE2 hI hR => ?_)
  show Y X S K A 0 0 [wsOf S w, stB S n p a q, bnC S K n p b ra rb (T 4 2) (T 4 3) (T 4 4) r, rwC S n ra (T 0) (T 1), rwC S p rb (T 2) (T 3)] 0 [(0, .ref (b 0)), (1, rf S 0), (2, .ref (a 0))] []
  have loopB : ∀ (j k : Nat), k + j = p → ∀ (w1 : Wd), CQ w1 T q n p u t nn L → Y X S K A (56 + k) (408 + 6 * k) [wsOf S w1, stB S n p a q, bnC S K n p b ra rb (T 4 2) (T 4 3) (T 4 4) r, rwC S n ra (T 0) (T 1), rwC S p rb (T 2) (T 3)] 79 [(3, .int (nI k)), (0, .ref (b 0)), (1, rf S 0), (2, .ref (a 0))] [] := by
    intro j
    induction j with
    | zero =>
      intro k hk w1 g1
      obtain hk2 : k = p := by omega
      rw [hk2]
      refine Y_iload_n hX dX12_isAs_79 0 rfl ?_
      refine Y_aload_n hX dX12_isAs_80 1 rfl ?_
      refine Y_get 2 0 hX fk_X12_124 rfl rfl rfl dX12_isAs_81 ?_
      refine Y_alen (t0 := 5) (v := nI p) 2 2 hX rfl rfl rfl rfl dX12_isAs_84 ?_
      refine Y_icmp_ge (tgt := 119) hX dX12_isAs_85 (by decide) (fun _ => ?_) (fun z => absurd (nI_le (Nat.le_refl _) (by omega)) z)
      refine Y_aload_n hX dX12_isAs_119 2 rfl ?_
      obtain ⟨w120, e120, g120⟩ := q_loud g1
      refine Y_callCi (w2 := w120) (v := loudT T q (q 8)) (As := []) (rest := []) hX hE2 hF mk_X12_214 nk_X10_loud (fun l => c_X10_loud l S e120) rfl tb_0 rfl ⟨rfl, rfl, Nat.le_of_ble_eq_true rfl, Nat.le_of_ble_eq_true rfl⟩ rfl rfl (Nat.le_of_ble_eq_true rfl) dX12_isAs_120 ⟨by show _ ≤ 64; omega, by show _ ≤ 512; omega⟩ ?_
      show Y X S K A (56 + p) (408 + 6 * p) [wsOf S w120, stB S n p a q, bnC S K n p b ra rb (T 4 2) (T 4 3) (T 4 4) r, rwC S n ra (T 0) (T 1), rwC S p rb (T 2) (T 3)] 123 [(3, .int (nI p)), (0, .ref (b 0)), (1, rf S 0), (2, .ref (a 0))] [.int (loudT T q (q 8))]
      refine Y_aload_n hX dX12_isAs_123 1 rfl ?_
      refine Y_aload_n hX dX12_isAs_124 3 rfl ?_
      refine Y_pick [1, 2, 3, 0, 4] (by decide) rfl ?_
      show Y X S K A (56 + p) (408 + 6 * p) [stB S n p a q, bnC S K n p b ra rb (T 4 2) (T 4 3) (T 4 4) r, rwC S n ra (T 0) (T 1), wsOf S w120, rwC S p rb (T 2) (T 3)] 125 [(3, .int (nI p)), (0, .ref (b 0)), (1, rf S 0), (2, .ref (a 0))] [.ref (a 0), .ref (b 0), .int (loudT T q (q 8))]
      refine Y_resi hX (sub := [stB S n p a q, bnC S K n p b ra rb (T 4 2) (T 4 3) (T 4 4) r, rwC S n ra (T 0) (T 1)]) (rst := [wsOf S w120, rwC S p rb (T 2) (T 3)]) rfl (Y_runV (b := 1) (i := 0) (As := [.ref (a 0)]) (rest := [.int (loudT T q (q 8))]) hX hE2 mk_X12_89 nkY_X12_loud hE (cY_X12_loud hE hF n p a (tir q) (rop q) (dou q) (q 9) (q 10) (q 11) (q 12) (q 13) (q 14) b ra rb (T 4 2) (T 4 3) (T 4 4) r (T 0) (T 1) ok.1 ok.2.1) rfl Ecall.same rfl rfl rfl ⟨rfl, rfl⟩ ⟨Nat.le_of_ble_eq_true rfl, Nat.le_of_ble_eq_true rfl⟩ rfl rfl (Nat.le_of_ble_eq_true rfl) dX12_isAs_125 ⟨by show _ ≤ 64; omega, by show _ ≤ 512; omega⟩) (fun u125 => ?_)
      show Y X S K A (56 + p) (408 + 6 * p) [stB S n p a q, bnC S K n p b ra rb (T 4 2) (T 4 3) (T 4 4) r, rwC S n ra (T 0) (T 1), wsOf S w120, rwC S p rb (T 2) (T 3)] 128 [(3, .int (nI p)), (0, .ref (b 0)), (1, rf S 0), (2, .ref (a 0))] [.int (loudI r (T 4 2) (T 4 3) (T 0) (tir q) (rop q) n (q 9) (q 10)), .int (loudT T q (q 8))]
      refine Y_eqi (x' := loudT T q (q 8)) (loud_b ok hr hq) ?_
      refine Y_icmp_ne (tgt := 235) hX dX12_isAs_128 (by decide) (fun z => absurd rfl z) (fun _ => ?_)
      refine Y_aload_n hX dX12_isAs_131 2 rfl ?_
      refine Y_iconst (v := 2) hX dX12_isAs_132 (by decide) ?_
      refine Y_pick [3, 0, 1, 2, 4] (by decide) rfl ?_
      show Y X S K A (56 + p) (408 + 6 * p) [wsOf S w120, stB S n p a q, bnC S K n p b ra rb (T 4 2) (T 4 3) (T 4 4) r, rwC S n ra (T 0) (T 1), rwC S p rb (T 2) (T 3)] 133 [(3, .int (nI p)), (0, .ref (b 0)), (1, rf S 0), (2, .ref (a 0))] [.int 2, rf S 0]
      obtain ⟨w133, e133, g133⟩ := q_count g120 2 (q 8) (fun c => cnt_2)
      refine Y_callCi (w2 := w133) (v := q 8) (As := [.int 2]) (rest := []) hX hE2 hF mk_X12_43 nk_X10_count (fun l => c_X10_count l S e133) rfl tb_0 rfl ⟨rfl, rfl, Nat.le_of_ble_eq_true rfl, Nat.le_of_ble_eq_true rfl⟩ rfl rfl (Nat.le_of_ble_eq_true rfl) dX12_isAs_133 ⟨by show _ ≤ 64; omega, by show _ ≤ 512; omega⟩ ?_
      show Y X S K A (56 + p) (408 + 6 * p) [wsOf S w133, stB S n p a q, bnC S K n p b ra rb (T 4 2) (T 4 3) (T 4 4) r, rwC S n ra (T 0) (T 1), rwC S p rb (T 2) (T 3)] 136 [(3, .int (nI p)), (0, .ref (b 0)), (1, rf S 0), (2, .ref (a 0))] [.int (q 8)]
      refine Y_aload_n hX dX12_isAs_136 3 rfl ?_
      refine Y_pick [1, 0, 2, 3, 4] (by decide) rfl ?_
      show Y X S K A (56 + p) (408 + 6 * p) [stB S n p a q, wsOf S w133, bnC S K n p b ra rb (T 4 2) (T 4 3) (T 4 4) r, rwC S n ra (T 0) (T 1), rwC S p rb (T 2) (T 3)] 137 [(3, .int (nI p)), (0, .ref (b 0)), (1, rf S 0), (2, .ref (a 0))] [.ref (a 0), .int (q 8)]
      refine Y_resi hX (sub := [stB S n p a q]) (rst := [wsOf S w133, bnC S K n p b ra rb (T 4 2) (T 4 3) (T 4 4) r, rwC S n ra (T 0) (T 1), rwC S p rb (T 2) (T 3)]) rfl (Y_runV (b := 0) (i := 0) (As := []) (rest := [.int (q 8)]) hX hE2 mk_X12_131 nkY_X11_bits hE (cY_X11_bits hE hF n p a (tir q) (rop q) (dou q) (q 9) (q 10) (q 11) (q 12) (q 13) (q 14) ok.1 ok.2.1) rfl Ecall.same rfl rfl rfl ⟨rfl, rfl⟩ ⟨Nat.le_of_ble_eq_true rfl, Nat.le_of_ble_eq_true rfl⟩ rfl rfl (Nat.le_of_ble_eq_true rfl) dX12_isAs_137 ⟨by show _ ≤ 64; omega, by show _ ≤ 512; omega⟩) (fun u137 => ?_)
      show Y X S K A (56 + p) (408 + 6 * p) [stB S n p a q, wsOf S w133, bnC S K n p b ra rb (T 4 2) (T 4 3) (T 4 4) r, rwC S n ra (T 0) (T 1), rwC S p rb (T 2) (T 3)] 140 [(3, .int (nI p)), (0, .ref (b 0)), (1, rf S 0), (2, .ref (a 0))] [.int (bitsL (rop q) n), .int (q 8)]
      refine Y_eqi (x' := q 8) (bits_b ok.1 hq) ?_
      refine Y_icmp_ne (tgt := 235) hX dX12_isAs_140 (by decide) (fun z => absurd rfl z) (fun _ => ?_)
      refine Y_aload_n hX dX12_isAs_143 2 rfl ?_
      refine Y_iconst (v := 3) hX dX12_isAs_144 (by decide) ?_
      refine Y_pick [1, 0, 2, 3, 4] (by decide) rfl ?_
      show Y X S K A (56 + p) (408 + 6 * p) [wsOf S w133, stB S n p a q, bnC S K n p b ra rb (T 4 2) (T 4 3) (T 4 4) r, rwC S n ra (T 0) (T 1), rwC S p rb (T 2) (T 3)] 145 [(3, .int (nI p)), (0, .ref (b 0)), (1, rf S 0), (2, .ref (a 0))] [.int 3, rf S 0]
      obtain ⟨w145, e145, g145⟩ := q_count g133 3 (q 9) (fun c => cnt_3)
      refine Y_callCi (w2 := w145) (v := q 9) (As := [.int 3]) (rest := []) hX hE2 hF mk_X12_43 nk_X10_count (fun l => c_X10_count l S e145) rfl tb_0 rfl ⟨rfl, rfl, Nat.le_of_ble_eq_true rfl, Nat.le_of_ble_eq_true rfl⟩ rfl rfl (Nat.le_of_ble_eq_true rfl) dX12_isAs_145 ⟨by show _ ≤ 64; omega, by show _ ≤ 512; omega⟩ ?_
      show Y X S K A (56 + p) (408 + 6 * p) [wsOf S w145, stB S n p a q, bnC S K n p b ra rb (T 4 2) (T 4 3) (T 4 4) r, rwC S n ra (T 0) (T 1), rwC S p rb (T 2) (T 3)] 148 [(3, .int (nI p)), (0, .ref (b 0)), (1, rf S 0), (2, .ref (a 0))] [.int (q 9)]
      refine Y_aload_n hX dX12_isAs_148 3 rfl ?_
      refine Y_get 1 0 hX fk_X12_70 rfl rfl rfl dX12_isAs_149 ?_
      refine Y_icmp_ne (tgt := 235) hX dX12_isAs_152 (by decide) (fun z => absurd rfl z) (fun _ => ?_)
      refine Y_aload_n hX dX12_isAs_155 2 rfl ?_
      refine Y_iconst (v := 4) hX dX12_isAs_156 (by decide) ?_
      obtain ⟨w157, e157, g157⟩ := q_count g145 4 (q 10) (fun c => cnt_4)
      refine Y_callCi (w2 := w157) (v := q 10) (As := [.int 4]) (rest := []) hX hE2 hF mk_X12_43 nk_X10_count (fun l => c_X10_count l S e157) rfl tb_0 rfl ⟨rfl, rfl, Nat.le_of_ble_eq_true rfl, Nat.le_of_ble_eq_true rfl⟩ rfl rfl (Nat.le_of_ble_eq_true rfl) dX12_isAs_157 ⟨by show _ ≤ 64; omega, by show _ ≤ 512; omega⟩ ?_
      show Y X S K A (56 + p) (408 + 6 * p) [wsOf S w157, stB S n p a q, bnC S K n p b ra rb (T 4 2) (T 4 3) (T 4 4) r, rwC S n ra (T 0) (T 1), rwC S p rb (T 2) (T 3)] 160 [(3, .int (nI p)), (0, .ref (b 0)), (1, rf S 0), (2, .ref (a 0))] [.int (q 10)]
      refine Y_aload_n hX dX12_isAs_160 3 rfl ?_
      refine Y_get 1 0 hX fk_X12_55 rfl rfl rfl dX12_isAs_161 ?_
      refine Y_icmp_ne (tgt := 235) hX dX12_isAs_164 (by decide) (fun z => absurd rfl z) (fun _ => ?_)
      refine Y_aload_n hX dX12_isAs_167 2 rfl ?_
      refine Y_iconst (v := 5) hX dX12_isAs_168 (by decide) ?_
      obtain ⟨w169, e169, g169⟩ := q_count g157 5 (q 11) (fun c => cnt_5)
      refine Y_callCi (w2 := w169) (v := q 11) (As := [.int 5]) (rest := []) hX hE2 hF mk_X12_43 nk_X10_count (fun l => c_X10_count l S e169) rfl tb_0 rfl ⟨rfl, rfl, Nat.le_of_ble_eq_true rfl, Nat.le_of_ble_eq_true rfl⟩ rfl rfl (Nat.le_of_ble_eq_true rfl) dX12_isAs_169 ⟨by show _ ≤ 64; omega, by show _ ≤ 512; omega⟩ ?_
      show Y X S K A (56 + p) (408 + 6 * p) [wsOf S w169, stB S n p a q, bnC S K n p b ra rb (T 4 2) (T 4 3) (T 4 4) r, rwC S n ra (T 0) (T 1), rwC S p rb (T 2) (T 3)] 172 [(3, .int (nI p)), (0, .ref (b 0)), (1, rf S 0), (2, .ref (a 0))] [.int (q 11)]
      refine Y_aload_n hX dX12_isAs_172 3 rfl ?_
      refine Y_get 1 0 hX fk_X12_96 rfl rfl rfl dX12_isAs_173 ?_
      refine Y_icmp_ne (tgt := 235) hX dX12_isAs_176 (by decide) (fun z => absurd rfl z) (fun _ => ?_)
      refine Y_aload_n hX dX12_isAs_179 2 rfl ?_
      refine Y_bipush (v := 6) hX dX12_isAs_180 (by decide) ?_
      obtain ⟨w182, e182, g182⟩ := q_count g169 6 (q 12) (fun c => cnt_6)
      refine Y_callCi (w2 := w182) (v := q 12) (As := [.int 6]) (rest := []) hX hE2 hF mk_X12_43 nk_X10_count (fun l => c_X10_count l S e182) rfl tb_0 rfl ⟨rfl, rfl, Nat.le_of_ble_eq_true rfl, Nat.le_of_ble_eq_true rfl⟩ rfl rfl (Nat.le_of_ble_eq_true rfl) dX12_isAs_182 ⟨by show _ ≤ 64; omega, by show _ ≤ 512; omega⟩ ?_
      show Y X S K A (56 + p) (408 + 6 * p) [wsOf S w182, stB S n p a q, bnC S K n p b ra rb (T 4 2) (T 4 3) (T 4 4) r, rwC S n ra (T 0) (T 1), rwC S p rb (T 2) (T 3)] 185 [(3, .int (nI p)), (0, .ref (b 0)), (1, rf S 0), (2, .ref (a 0))] [.int (q 12)]
      refine Y_aload_n hX dX12_isAs_185 3 rfl ?_
      refine Y_get 1 0 hX fk_X12_93 rfl rfl rfl dX12_isAs_186 ?_
      refine Y_icmp_ne (tgt := 235) hX dX12_isAs_189 (by decide) (fun z => absurd rfl z) (fun _ => ?_)
      refine Y_aload_n hX dX12_isAs_192 2 rfl ?_
      refine Y_bipush (v := 7) hX dX12_isAs_193 (by decide) ?_
      obtain ⟨w195, e195, g195⟩ := q_count g182 7 (q 13) (fun c => cnt_7)
      refine Y_callCi (w2 := w195) (v := q 13) (As := [.int 7]) (rest := []) hX hE2 hF mk_X12_43 nk_X10_count (fun l => c_X10_count l S e195) rfl tb_0 rfl ⟨rfl, rfl, Nat.le_of_ble_eq_true rfl, Nat.le_of_ble_eq_true rfl⟩ rfl rfl (Nat.le_of_ble_eq_true rfl) dX12_isAs_195 ⟨by show _ ≤ 64; omega, by show _ ≤ 512; omega⟩ ?_
      show Y X S K A (56 + p) (408 + 6 * p) [wsOf S w195, stB S n p a q, bnC S K n p b ra rb (T 4 2) (T 4 3) (T 4 4) r, rwC S n ra (T 0) (T 1), rwC S p rb (T 2) (T 3)] 198 [(3, .int (nI p)), (0, .ref (b 0)), (1, rf S 0), (2, .ref (a 0))] [.int (q 13)]
      refine Y_aload_n hX dX12_isAs_198 3 rfl ?_
      refine Y_get 1 0 hX fk_X12_102 rfl rfl rfl dX12_isAs_199 ?_
      refine Y_icmp_ne (tgt := 235) hX dX12_isAs_202 (by decide) (fun z => absurd rfl z) (fun _ => ?_)
      refine Y_aload_n hX dX12_isAs_205 2 rfl ?_
      refine Y_bipush (v := 8) hX dX12_isAs_206 (by decide) ?_
      obtain ⟨w208, e208, g208⟩ := q_count g195 8 (q 14) (fun c => cnt_8)
      refine Y_callCi (w2 := w208) (v := q 14) (As := [.int 8]) (rest := []) hX hE2 hF mk_X12_43 nk_X10_count (fun l => c_X10_count l S e208) rfl tb_0 rfl ⟨rfl, rfl, Nat.le_of_ble_eq_true rfl, Nat.le_of_ble_eq_true rfl⟩ rfl rfl (Nat.le_of_ble_eq_true rfl) dX12_isAs_208 ⟨by show _ ≤ 64; omega, by show _ ≤ 512; omega⟩ ?_
      show Y X S K A (56 + p) (408 + 6 * p) [wsOf S w208, stB S n p a q, bnC S K n p b ra rb (T 4 2) (T 4 3) (T 4 4) r, rwC S n ra (T 0) (T 1), rwC S p rb (T 2) (T 3)] 211 [(3, .int (nI p)), (0, .ref (b 0)), (1, rf S 0), (2, .ref (a 0))] [.int (q 14)]
      refine Y_aload_n hX dX12_isAs_211 3 rfl ?_
      refine Y_get 1 0 hX fk_X12_105 rfl rfl rfl dX12_isAs_212 ?_
      refine Y_icmp_ne (tgt := 235) hX dX12_isAs_215 (by decide) (fun z => absurd rfl z) (fun _ => ?_)
      refine Y_aload_n hX dX12_isAs_218 2 rfl ?_
      refine Y_bipush (v := 9) hX dX12_isAs_219 (by decide) ?_
      obtain ⟨w221, e221, g221⟩ := q_count g208 9 (q 15) (fun c => cnt_9)
      refine Y_callCi (w2 := w221) (v := q 15) (As := [.int 9]) (rest := []) hX hE2 hF mk_X12_43 nk_X10_count (fun l => c_X10_count l S e221) rfl tb_0 rfl ⟨rfl, rfl, Nat.le_of_ble_eq_true rfl, Nat.le_of_ble_eq_true rfl⟩ rfl rfl (Nat.le_of_ble_eq_true rfl) dX12_isAs_221 ⟨by show _ ≤ 64; omega, by show _ ≤ 512; omega⟩ ?_
      show Y X S K A (56 + p) (408 + 6 * p) [wsOf S w221, stB S n p a q, bnC S K n p b ra rb (T 4 2) (T 4 3) (T 4 4) r, rwC S n ra (T 0) (T 1), rwC S p rb (T 2) (T 3)] 224 [(3, .int (nI p)), (0, .ref (b 0)), (1, rf S 0), (2, .ref (a 0))] [.int (q 15)]
      refine Y_aload_n hX dX12_isAs_224 3 rfl ?_
      refine Y_pick [1, 0, 2, 3, 4] (by decide) rfl ?_
      show Y X S K A (56 + p) (408 + 6 * p) [stB S n p a q, wsOf S w221, bnC S K n p b ra rb (T 4 2) (T 4 3) (T 4 4) r, rwC S n ra (T 0) (T 1), rwC S p rb (T 2) (T 3)] 225 [(3, .int (nI p)), (0, .ref (b 0)), (1, rf S 0), (2, .ref (a 0))] [.ref (a 0), .int (q 15)]
      refine Y_resi hX (sub := [stB S n p a q]) (rst := [wsOf S w221, bnC S K n p b ra rb (T 4 2) (T 4 3) (T 4 4) r, rwC S n ra (T 0) (T 1), rwC S p rb (T 2) (T 3)]) rfl (Y_runV (b := 0) (i := 0) (As := []) (rest := [.int (q 15)]) hX hE2 mk_X12_198 nkY_X11_doubt hE (cY_X11_doubt hE hF n p a (tir q) (rop q) (dou q) (q 9) (q 10) (q 11) (q 12) (q 13) (q 14) ok.1 ok.2.1) rfl Ecall.same rfl rfl rfl ⟨rfl, rfl⟩ ⟨Nat.le_of_ble_eq_true rfl, Nat.le_of_ble_eq_true rfl⟩ rfl rfl (Nat.le_of_ble_eq_true rfl) dX12_isAs_225 ⟨by show _ ≤ 64; omega, by show _ ≤ 512; omega⟩) (fun u225 => ?_)
      show Y X S K A (56 + p) (408 + 6 * p) [stB S n p a q, wsOf S w221, bnC S K n p b ra rb (T 4 2) (T 4 3) (T 4 4) r, rwC S n ra (T 0) (T 1), rwC S p rb (T 2) (T 3)] 228 [(3, .int (nI p)), (0, .ref (b 0)), (1, rf S 0), (2, .ref (a 0))] [.int (bitsL (dou q) p), .int (q 15)]
      refine Y_eqi (x' := q 15) (doubt_b ok.2.1 hq) ?_
      refine Y_icmp_ne (tgt := 235) hX dX12_isAs_228 (by decide) (fun z => absurd rfl z) (fun _ => ?_)
      refine Y_iconst (v := 1) hX dX12_isAs_231 (by decide) ?_
      refine Y_goto (tgt := 236) hX dX12_isAs_232 (by decide) ?_
      refine Y_wd (kc' := 64) (kn' := 512) (by omega) (by omega) ?_
      refine Y_pick [1, 0, 2, 3, 4] (by decide) rfl ?_
      exact hR (fun _ => 0, w221, T) _ _ g221 rfl dX12_isAs_236
    | succ j ih =>
      intro k hk w1 g1
      refine Y_iload_n hX dX12_isAs_79 0 rfl ?_
      refine Y_aload_n hX dX12_isAs_80 1 rfl ?_
      refine Y_get 2 0 hX fk_X12_124 rfl rfl rfl dX12_isAs_81 ?_
      refine Y_alen (t0 := 5) (v := nI p) 2 2 hX rfl rfl rfl rfl dX12_isAs_84 ?_
      refine Y_icmp_ge (tgt := 119) hX dX12_isAs_85 (by decide) (fun z => absurd z (nI_ge (show k < p by omega) (by omega))) (fun _ => ?_)
      refine Y_aload_n hX dX12_isAs_88 2 rfl ?_
      refine Y_iload_n hX dX12_isAs_89 0 rfl ?_
      refine Y_iconst (v := 2) hX dX12_isAs_90 (by decide) ?_
      obtain ⟨w91, e91, g91⟩ := q_person g1 (nI k) 2
      rw [pe_2 (by omega) (by omega)] at e91
      refine Y_callWi (w2 := w91) (v := bt (q 15) k) (As := [rf S 0, .int (nI k), .int 2]) (rest := []) hX hE2 hF mw_X12_212 nkY_X12_person (fun l hl => cW_X12_person l hl S e91) rfl ⟨rfl, rfl, Nat.le_of_ble_eq_true rfl, Nat.le_of_ble_eq_true rfl⟩ rfl rfl (Nat.le_of_ble_eq_true rfl) dX12_isAs_91 ⟨by show _ ≤ 64; omega, by show _ ≤ 512; omega⟩ ?_
      show Y X S K A (56 + k + 1) (408 + 6 * k + 6) [wsOf S w91, stB S n p a q, bnC S K n p b ra rb (T 4 2) (T 4 3) (T 4 4) r, rwC S n ra (T 0) (T 1), rwC S p rb (T 2) (T 3)] 94 [(3, .int (nI k)), (0, .ref (b 0)), (1, rf S 0), (2, .ref (a 0))] [.int (bt (q 15) k)]
      refine Y_aload_n hX dX12_isAs_94 3 rfl ?_
      refine Y_get 1 0 hX fk_X12_116 rfl rfl rfl dX12_isAs_95 ?_
      refine Y_iload_n hX dX12_isAs_98 0 rfl ?_
      refine Y_zald (v := bt (q 15) k) 1 3 hX rfl rfl (vp_in_nI (by omega) (by omega)) (by rw [nI_clamp (by omega)]; exact dou_at (by omega)) dX12_isAs_99 ?_
      refine Y_if_eq (tgt := 107) hX dX12_isAs_100 (by decide) (fun h100 => ?_) (fun h100 => ?_)
      · refine Y_iconst (v := 0) hX dX12_isAs_107 (by decide) ?_
        refine Y_icmp_eq (tgt := 113) hX dX12_isAs_108 (by decide) (fun _ => ?_) (fun z => absurd h100 z)
        refine Y_iinc (v := nI (k + 1)) (lv' := [(3, .int (nI (k + 1))), (0, .ref (b 0)), (1, rf S 0), (2, .ref (a 0))]) hX dX12_isAs_113 (j := 0) rfl (by decide) (iinc1 k) rfl ?_
        refine Y_goto (tgt := 79) hX dX12_isAs_116 (by decide) ?_
        exact Y_wd (by omega) (by omega) (ih (k + 1) (by omega) w91 g91)
      · refine Y_iconst (v := 1) hX dX12_isAs_103 (by decide) ?_
        refine Y_goto (tgt := 108) hX dX12_isAs_104 (by decide) ?_
        refine Y_icmp_eq (tgt := 113) hX dX12_isAs_108 (by decide) (fun _ => ?_) (fun z => absurd ((bt01 (q 15) k).resolve_left h100) z)
        refine Y_iinc (v := nI (k + 1)) (lv' := [(3, .int (nI (k + 1))), (0, .ref (b 0)), (1, rf S 0), (2, .ref (a 0))]) hX dX12_isAs_113 (j := 0) rfl (by decide) (iinc1 k) rfl ?_
        refine Y_goto (tgt := 79) hX dX12_isAs_116 (by decide) ?_
        exact Y_wd (by omega) (by omega) (ih (k + 1) (by omega) w91 g91)
  have loopA : ∀ (j k : Nat), k + j = n → ∀ (w1 : Wd), CQ w1 T q n p u t nn L → Y X S K A (7 * k) (51 * k) [wsOf S w1, stB S n p a q, bnC S K n p b ra rb (T 4 2) (T 4 3) (T 4 4) r, rwC S n ra (T 0) (T 1), rwC S p rb (T 2) (T 3)] 2 [(3, .int (nI k)), (0, .ref (b 0)), (1, rf S 0), (2, .ref (a 0))] [] := by
    intro j
    induction j with
    | zero =>
      intro k hk w1 g1
      obtain hk2 : k = n := by omega
      rw [hk2]
      refine Y_iload_n hX dX12_isAs_2 0 rfl ?_
      refine Y_aload_n hX dX12_isAs_3 1 rfl ?_
      refine Y_get 2 0 hX fk_X12_73 rfl rfl rfl dX12_isAs_4 ?_
      refine Y_alen (t0 := 5) (v := nI n) 2 1 hX rfl rfl rfl rfl dX12_isAs_7 ?_
      refine Y_icmp_ge (tgt := 77) hX dX12_isAs_8 (by decide) (fun _ => ?_) (fun z => absurd (nI_le (Nat.le_refl _) (by omega)) z)
      refine Y_iconst (v := 0) hX dX12_isAs_77 (by decide) ?_
      refine Y_istore_n (lv' := [(3, .int 0), (0, .ref (b 0)), (1, rf S 0), (2, .ref (a 0))]) hX dX12_isAs_78 (by decide) rfl ?_
      exact Y_wd (by omega) (by omega) (loopB p 0 (by omega) w1 g1)
    | succ j ih =>
      intro k hk w1 g1
      refine Y_iload_n hX dX12_isAs_2 0 rfl ?_
      refine Y_aload_n hX dX12_isAs_3 1 rfl ?_
      refine Y_get 2 0 hX fk_X12_73 rfl rfl rfl dX12_isAs_4 ?_
      refine Y_alen (t0 := 5) (v := nI n) 2 1 hX rfl rfl rfl rfl dX12_isAs_7 ?_
      refine Y_icmp_ge (tgt := 77) hX dX12_isAs_8 (by decide) (fun z => absurd z (nI_ge (show k < n by omega) (by omega))) (fun _ => ?_)
      refine Y_aload_n hX dX12_isAs_11 2 rfl ?_
      refine Y_iload_n hX dX12_isAs_12 0 rfl ?_
      refine Y_iconst (v := 2) hX dX12_isAs_13 (by decide) ?_
      obtain ⟨w14, e14, g14⟩ := q_ringer g1 (nI k) 2
      rw [rg_2 (by omega) (by omega)] at e14
      refine Y_callWi (w2 := w14) (v := q k) (As := [rf S 0, .int (nI k), .int 2]) (rest := []) hX hE2 hF mw_X12_205 nkY_X12_ringer (fun l hl => cW_X12_ringer l hl S e14) rfl ⟨rfl, rfl, Nat.le_of_ble_eq_true rfl, Nat.le_of_ble_eq_true rfl⟩ rfl rfl (Nat.le_of_ble_eq_true rfl) dX12_isAs_14 ⟨by show _ ≤ 64; omega, by show _ ≤ 512; omega⟩ ?_
      show Y X S K A (7 * k + 1) (51 * k + 6) [wsOf S w14, stB S n p a q, bnC S K n p b ra rb (T 4 2) (T 4 3) (T 4 4) r, rwC S n ra (T 0) (T 1), rwC S p rb (T 2) (T 3)] 17 [(3, .int (nI k)), (0, .ref (b 0)), (1, rf S 0), (2, .ref (a 0))] [.int (q k)]
      refine Y_aload_n hX dX12_isAs_17 3 rfl ?_
      refine Y_get 1 0 hX fk_X12_81 rfl rfl rfl dX12_isAs_18 ?_
      refine Y_iload_n hX dX12_isAs_21 0 rfl ?_
      refine Y_iald (v := q k) 1 1 hX rfl rfl (vp_in_nI (by omega) (by omega)) (by rw [nI_clamp (by omega)]; exact tir_at (by omega)) dX12_isAs_22 ?_
      refine Y_icmp_ne (tgt := 69) hX dX12_isAs_23 (by decide) (fun z => absurd rfl z) (fun _ => ?_)
      refine Y_aload_n hX dX12_isAs_26 2 rfl ?_
      refine Y_iload_n hX dX12_isAs_27 0 rfl ?_
      refine Y_iconst (v := 3) hX dX12_isAs_28 (by decide) ?_
      obtain ⟨w29, e29, g29⟩ := q_ringer g14 (nI k) 3
      rw [rg_3 (by omega) (by omega)] at e29
      refine Y_callWi (w2 := w29) (v := bt (q 8) k) (As := [rf S 0, .int (nI k), .int 3]) (rest := []) hX hE2 hF mw_X12_205 nkY_X12_ringer (fun l hl => cW_X12_ringer l hl S e29) rfl ⟨rfl, rfl, Nat.le_of_ble_eq_true rfl, Nat.le_of_ble_eq_true rfl⟩ rfl rfl (Nat.le_of_ble_eq_true rfl) dX12_isAs_29 ⟨by show _ ≤ 64; omega, by show _ ≤ 512; omega⟩ ?_
      show Y X S K A (7 * k + 1 + 1) (51 * k + 6 + 6) [wsOf S w29, stB S n p a q, bnC S K n p b ra rb (T 4 2) (T 4 3) (T 4 4) r, rwC S n ra (T 0) (T 1), rwC S p rb (T 2) (T 3)] 32 [(3, .int (nI k)), (0, .ref (b 0)), (1, rf S 0), (2, .ref (a 0))] [.int (bt (q 8) k)]
      refine Y_aload_n hX dX12_isAs_32 3 rfl ?_
      refine Y_get 1 0 hX fk_X12_77 rfl rfl rfl dX12_isAs_33 ?_
      refine Y_iload_n hX dX12_isAs_36 0 rfl ?_
      refine Y_zald (v := bt (q 8) k) 1 2 hX rfl rfl (vp_in_nI (by omega) (by omega)) (by rw [nI_clamp (by omega)]; exact rop_at (by omega)) dX12_isAs_37 ?_
      refine Y_if_eq (tgt := 45) hX dX12_isAs_38 (by decide) (fun h38 => ?_) (fun h38 => ?_)
      · refine Y_iconst (v := 0) hX dX12_isAs_45 (by decide) ?_
        refine Y_icmp_ne (tgt := 69) hX dX12_isAs_46 (by decide) (fun z => absurd (h38.trans rfl) z) (fun _ => ?_)
        refine Y_aload_n hX dX12_isAs_49 2 rfl ?_
        refine Y_iload_n hX dX12_isAs_50 0 rfl ?_
        refine Y_iconst (v := 4) hX dX12_isAs_51 (by decide) ?_
        obtain ⟨w52, e52, g52⟩ := q_ringer g29 (nI k) 4
        rw [rg_4 (by omega) (by omega)] at e52
        refine Y_callWi (w2 := w52) (v := loudT T q (bit1 k)) (As := [rf S 0, .int (nI k), .int 4]) (rest := []) hX hE2 hF mw_X12_205 nkY_X12_ringer (fun l hl => cW_X12_ringer l hl S e52) rfl ⟨rfl, rfl, Nat.le_of_ble_eq_true rfl, Nat.le_of_ble_eq_true rfl⟩ rfl rfl (Nat.le_of_ble_eq_true rfl) dX12_isAs_52 ⟨by show _ ≤ 64; omega, by show _ ≤ 512; omega⟩ ?_
        show Y X S K A (7 * k + 1 + 1 + 1) (51 * k + 6 + 6 + 6) [wsOf S w52, stB S n p a q, bnC S K n p b ra rb (T 4 2) (T 4 3) (T 4 4) r, rwC S n ra (T 0) (T 1), rwC S p rb (T 2) (T 3)] 55 [(3, .int (nI k)), (0, .ref (b 0)), (1, rf S 0), (2, .ref (a 0))] [.int (loudT T q (bit1 k))]
        refine Y_aload_n hX dX12_isAs_55 1 rfl ?_
        refine Y_aload_n hX dX12_isAs_56 3 rfl ?_
        refine Y_iconst (v := 1) hX dX12_isAs_57 (by decide) ?_
        refine Y_iload_n hX dX12_isAs_58 0 rfl ?_
        refine Y_ishl hX dX12_isAs_59 ?_
        refine Y_eqi (x' := bit1 k) (rfl) ?_
        refine Y_pick [1, 0, 2, 3, 4] (by decide) rfl ?_
        show Y X S K A (7 * k + 1 + 1 + 1) (51 * k + 6 + 6 + 6) [stB S n p a q, wsOf S w52, bnC S K n p b ra rb (T 4 2) (T 4 3) (T 4 4) r, rwC S n ra (T 0) (T 1), rwC S p rb (T 2) (T 3)] 60 [(3, .int (nI k)), (0, .ref (b 0)), (1, rf S 0), (2, .ref (a 0))] [.int (bit1 k), .ref (a 0), .ref (b 0), .int (loudT T q (bit1 k))]
        refine Y_resq hX (sub := [stB S n p a q]) (rst := [wsOf S w52, bnC S K n p b ra rb (T 4 2) (T 4 3) (T 4 4) r, rwC S n ra (T 0) (T 1), rwC S p rb (T 2) (T 3)]) rfl (Y_runV (b := 0) (i := 0) (As := [.int (bit1 k)]) (rest := [.ref (b 0), .int (loudT T q (bit1 k))]) hX hE2 mk_X12_208 nkY_X11_only hE (cY_X11_only hE hF (bit1 k) n p a (tir q) (rop q) (dou q) (q 9) (q 10) (q 11) (q 12) (q 13) (q 14) ok.1 ok.2.1 (rop01 q) (dou01 q)) rfl Ecall.same rfl rfl rfl ⟨rfl, rfl⟩ ⟨Nat.le_of_ble_eq_true rfl, Nat.le_of_ble_eq_true rfl⟩ rfl rfl (Nat.le_of_ble_eq_true rfl) dX12_isAs_60 ⟨by show _ ≤ 64; omega, by show _ ≤ 512; omega⟩) (fun u60 => ?_)
        show Y X S K A (7 * k + 1 + 1 + 1 + 4) (51 * k + 6 + 6 + 6 + 33) [stB S n p a q, stC S n p u60 (tir q) (selF (bit1 k) (rop q) n) (dou q) (q 9) (q 10) (q 11) (q 12) (q 13) (q 14), wsOf S w52, bnC S K n p b ra rb (T 4 2) (T 4 3) (T 4 4) r, rwC S n ra (T 0) (T 1), rwC S p rb (T 2) (T 3)] 63 [(3, .int (nI k)), (0, .ref (b 0)), (1, rf S 0), (2, .ref (a 0))] [.ref (u60 0), .ref (b 0), .int (loudT T q (bit1 k))]
        refine Y_pick [1, 3, 4, 0, 2, 5] (by decide) rfl ?_
        show Y X S K A (7 * k + 1 + 1 + 1 + 4) (51 * k + 6 + 6 + 6 + 33) [stC S n p u60 (tir q) (selF (bit1 k) (rop q) n) (dou q) (q 9) (q 10) (q 11) (q 12) (q 13) (q 14), bnC S K n p b ra rb (T 4 2) (T 4 3) (T 4 4) r, rwC S n ra (T 0) (T 1), stB S n p a q, wsOf S w52, rwC S p rb (T 2) (T 3)] 63 [(3, .int (nI k)), (0, .ref (b 0)), (1, rf S 0), (2, .ref (a 0))] [.ref (u60 0), .ref (b 0), .int (loudT T q (bit1 k))]
        refine Y_resi hX (sub := [stC S n p u60 (tir q) (selF (bit1 k) (rop q) n) (dou q) (q 9) (q 10) (q 11) (q 12) (q 13) (q 14), bnC S K n p b ra rb (T 4 2) (T 4 3) (T 4 4) r, rwC S n ra (T 0) (T 1)]) (rst := [stB S n p a q, wsOf S w52, rwC S p rb (T 2) (T 3)]) rfl (Y_runV (b := 1) (i := 0) (As := [.ref (u60 0)]) (rest := [.int (loudT T q (bit1 k))]) hX hE2 mk_X12_89 nkY_X12_loud hE (cY_X12_loud hE hF n p u60 (tir q) (selF (bit1 k) (rop q) n) (dou q) (q 9) (q 10) (q 11) (q 12) (q 13) (q 14) b ra rb (T 4 2) (T 4 3) (T 4 4) r (T 0) (T 1) ok.1 ok.2.1) rfl Ecall.same rfl rfl rfl ⟨rfl, rfl⟩ ⟨Nat.le_of_ble_eq_true rfl, Nat.le_of_ble_eq_true rfl⟩ rfl rfl (Nat.le_of_ble_eq_true rfl) dX12_isAs_63 ⟨by show _ ≤ 64; omega, by show _ ≤ 512; omega⟩) (fun u63 => ?_)
        show Y X S K A (7 * k + 1 + 1 + 1 + 4) (51 * k + 6 + 6 + 6 + 33) [stC S n p u60 (tir q) (selF (bit1 k) (rop q) n) (dou q) (q 9) (q 10) (q 11) (q 12) (q 13) (q 14), bnC S K n p b ra rb (T 4 2) (T 4 3) (T 4 4) r, rwC S n ra (T 0) (T 1), stB S n p a q, wsOf S w52, rwC S p rb (T 2) (T 3)] 66 [(3, .int (nI k)), (0, .ref (b 0)), (1, rf S 0), (2, .ref (a 0))] [.int (loudI r (T 4 2) (T 4 3) (T 0) (tir q) (selF (bit1 k) (rop q) n) n (q 9) (q 10)), .int (loudT T q (bit1 k))]
        refine Y_eqi (x' := loudT T q (bit1 k)) (loud_only ok hr hq (by omega)) ?_
        refine Y_icmp_eq (tgt := 71) hX dX12_isAs_66 (by decide) (fun _ => ?_) (fun z => absurd rfl z)
        refine Y_iinc (v := nI (k + 1)) (lv' := [(3, .int (nI (k + 1))), (0, .ref (b 0)), (1, rf S 0), (2, .ref (a 0))]) hX dX12_isAs_71 (j := 0) rfl (by decide) (iinc1 k) rfl ?_
        refine Y_goto (tgt := 2) hX dX12_isAs_74 (by decide) ?_
        refine Y_pick [4, 3, 1, 2, 5] (by decide) rfl ?_
        exact Y_wd (by omega) (by omega) (ih (k + 1) (by omega) w52 g52)
      · refine Y_iconst (v := 1) hX dX12_isAs_41 (by decide) ?_
        refine Y_goto (tgt := 46) hX dX12_isAs_42 (by decide) ?_
        refine Y_icmp_ne (tgt := 69) hX dX12_isAs_46 (by decide) (fun z => absurd ((bt01 (q 8) k).resolve_left h38) z) (fun _ => ?_)
        refine Y_aload_n hX dX12_isAs_49 2 rfl ?_
        refine Y_iload_n hX dX12_isAs_50 0 rfl ?_
        refine Y_iconst (v := 4) hX dX12_isAs_51 (by decide) ?_
        obtain ⟨w52, e52, g52⟩ := q_ringer g29 (nI k) 4
        rw [rg_4 (by omega) (by omega)] at e52
        refine Y_callWi (w2 := w52) (v := loudT T q (bit1 k)) (As := [rf S 0, .int (nI k), .int 4]) (rest := []) hX hE2 hF mw_X12_205 nkY_X12_ringer (fun l hl => cW_X12_ringer l hl S e52) rfl ⟨rfl, rfl, Nat.le_of_ble_eq_true rfl, Nat.le_of_ble_eq_true rfl⟩ rfl rfl (Nat.le_of_ble_eq_true rfl) dX12_isAs_52 ⟨by show _ ≤ 64; omega, by show _ ≤ 512; omega⟩ ?_
        show Y X S K A (7 * k + 1 + 1 + 1) (51 * k + 6 + 6 + 6) [wsOf S w52, stB S n p a q, bnC S K n p b ra rb (T 4 2) (T 4 3) (T 4 4) r, rwC S n ra (T 0) (T 1), rwC S p rb (T 2) (T 3)] 55 [(3, .int (nI k)), (0, .ref (b 0)), (1, rf S 0), (2, .ref (a 0))] [.int (loudT T q (bit1 k))]
        refine Y_aload_n hX dX12_isAs_55 1 rfl ?_
        refine Y_aload_n hX dX12_isAs_56 3 rfl ?_
        refine Y_iconst (v := 1) hX dX12_isAs_57 (by decide) ?_
        refine Y_iload_n hX dX12_isAs_58 0 rfl ?_
        refine Y_ishl hX dX12_isAs_59 ?_
        refine Y_eqi (x' := bit1 k) (rfl) ?_
        refine Y_pick [1, 0, 2, 3, 4] (by decide) rfl ?_
        show Y X S K A (7 * k + 1 + 1 + 1) (51 * k + 6 + 6 + 6) [stB S n p a q, wsOf S w52, bnC S K n p b ra rb (T 4 2) (T 4 3) (T 4 4) r, rwC S n ra (T 0) (T 1), rwC S p rb (T 2) (T 3)] 60 [(3, .int (nI k)), (0, .ref (b 0)), (1, rf S 0), (2, .ref (a 0))] [.int (bit1 k), .ref (a 0), .ref (b 0), .int (loudT T q (bit1 k))]
        refine Y_resq hX (sub := [stB S n p a q]) (rst := [wsOf S w52, bnC S K n p b ra rb (T 4 2) (T 4 3) (T 4 4) r, rwC S n ra (T 0) (T 1), rwC S p rb (T 2) (T 3)]) rfl (Y_runV (b := 0) (i := 0) (As := [.int (bit1 k)]) (rest := [.ref (b 0), .int (loudT T q (bit1 k))]) hX hE2 mk_X12_208 nkY_X11_only hE (cY_X11_only hE hF (bit1 k) n p a (tir q) (rop q) (dou q) (q 9) (q 10) (q 11) (q 12) (q 13) (q 14) ok.1 ok.2.1 (rop01 q) (dou01 q)) rfl Ecall.same rfl rfl rfl ⟨rfl, rfl⟩ ⟨Nat.le_of_ble_eq_true rfl, Nat.le_of_ble_eq_true rfl⟩ rfl rfl (Nat.le_of_ble_eq_true rfl) dX12_isAs_60 ⟨by show _ ≤ 64; omega, by show _ ≤ 512; omega⟩) (fun u60 => ?_)
        show Y X S K A (7 * k + 1 + 1 + 1 + 4) (51 * k + 6 + 6 + 6 + 33) [stB S n p a q, stC S n p u60 (tir q) (selF (bit1 k) (rop q) n) (dou q) (q 9) (q 10) (q 11) (q 12) (q 13) (q 14), wsOf S w52, bnC S K n p b ra rb (T 4 2) (T 4 3) (T 4 4) r, rwC S n ra (T 0) (T 1), rwC S p rb (T 2) (T 3)] 63 [(3, .int (nI k)), (0, .ref (b 0)), (1, rf S 0), (2, .ref (a 0))] [.ref (u60 0), .ref (b 0), .int (loudT T q (bit1 k))]
        refine Y_pick [1, 3, 4, 0, 2, 5] (by decide) rfl ?_
        show Y X S K A (7 * k + 1 + 1 + 1 + 4) (51 * k + 6 + 6 + 6 + 33) [stC S n p u60 (tir q) (selF (bit1 k) (rop q) n) (dou q) (q 9) (q 10) (q 11) (q 12) (q 13) (q 14), bnC S K n p b ra rb (T 4 2) (T 4 3) (T 4 4) r, rwC S n ra (T 0) (T 1), stB S n p a q, wsOf S w52, rwC S p rb (T 2) (T 3)] 63 [(3, .int (nI k)), (0, .ref (b 0)), (1, rf S 0), (2, .ref (a 0))] [.ref (u60 0), .ref (b 0), .int (loudT T q (bit1 k))]
        refine Y_resi hX (sub := [stC S n p u60 (tir q) (selF (bit1 k) (rop q) n) (dou q) (q 9) (q 10) (q 11) (q 12) (q 13) (q 14), bnC S K n p b ra rb (T 4 2) (T 4 3) (T 4 4) r, rwC S n ra (T 0) (T 1)]) (rst := [stB S n p a q, wsOf S w52, rwC S p rb (T 2) (T 3)]) rfl (Y_runV (b := 1) (i := 0) (As := [.ref (u60 0)]) (rest := [.int (loudT T q (bit1 k))]) hX hE2 mk_X12_89 nkY_X12_loud hE (cY_X12_loud hE hF n p u60 (tir q) (selF (bit1 k) (rop q) n) (dou q) (q 9) (q 10) (q 11) (q 12) (q 13) (q 14) b ra rb (T 4 2) (T 4 3) (T 4 4) r (T 0) (T 1) ok.1 ok.2.1) rfl Ecall.same rfl rfl rfl ⟨rfl, rfl⟩ ⟨Nat.le_of_ble_eq_true rfl, Nat.le_of_ble_eq_true rfl⟩ rfl rfl (Nat.le_of_ble_eq_true rfl) dX12_isAs_63 ⟨by show _ ≤ 64; omega, by show _ ≤ 512; omega⟩) (fun u63 => ?_)
        show Y X S K A (7 * k + 1 + 1 + 1 + 4) (51 * k + 6 + 6 + 6 + 33) [stC S n p u60 (tir q) (selF (bit1 k) (rop q) n) (dou q) (q 9) (q 10) (q 11) (q 12) (q 13) (q 14), bnC S K n p b ra rb (T 4 2) (T 4 3) (T 4 4) r, rwC S n ra (T 0) (T 1), stB S n p a q, wsOf S w52, rwC S p rb (T 2) (T 3)] 66 [(3, .int (nI k)), (0, .ref (b 0)), (1, rf S 0), (2, .ref (a 0))] [.int (loudI r (T 4 2) (T 4 3) (T 0) (tir q) (selF (bit1 k) (rop q) n) n (q 9) (q 10)), .int (loudT T q (bit1 k))]
        refine Y_eqi (x' := loudT T q (bit1 k)) (loud_only ok hr hq (by omega)) ?_
        refine Y_icmp_eq (tgt := 71) hX dX12_isAs_66 (by decide) (fun _ => ?_) (fun z => absurd rfl z)
        refine Y_iinc (v := nI (k + 1)) (lv' := [(3, .int (nI (k + 1))), (0, .ref (b 0)), (1, rf S 0), (2, .ref (a 0))]) hX dX12_isAs_71 (j := 0) rfl (by decide) (iinc1 k) rfl ?_
        refine Y_goto (tgt := 2) hX dX12_isAs_74 (by decide) ?_
        refine Y_pick [4, 3, 1, 2, 5] (by decide) rfl ?_
        exact Y_wd (by omega) (by omega) (ih (k + 1) (by omega) w52 g52)
  refine Y_iconst (v := 0) hX dX12_isAs_0 (by decide) ?_
  refine Y_istore_n (lv' := [(3, .int 0), (0, .ref (b 0)), (1, rf S 0), (2, .ref (a 0))]) hX dX12_isAs_1 (by decide) rfl ?_
  exact loopA n 0 (by omega) w h
