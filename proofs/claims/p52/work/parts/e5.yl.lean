-- ===== a watch: its acts one after another =====
theorem run_bad {T : Tw} {n : Nat} {l : List (Nat × Nat × Nat)} {x : Nat × Nat × Nat} {q q1 q3 : Bl} {d : Nat} (h : runA T n l 0 q = (true, d, q1)) (e : q3 = q1) : runA T n (l ++ [x]) 0 q = (true, d, q3) := by
  rw [runA_snoc, h, if_pos rfl, e]
theorem run_neg {T : Tw} {n : Nat} {l : List (Nat × Nat × Nat)} {x : Nat × Nat × Nat} {q q1 q3 : Bl} {d : Nat} (h : runA T n l 0 q = (false, d, q1)) (hn : (axP T n x q1).1 < 0) (e : q3 = (axP T n x q1).2) : runA T n (l ++ [x]) 0 q = (true, d, q3) := by
  rw [runA_snoc, h, if_neg (fun z => nomatch z), if_pos hn, e]
theorem run_pos {T : Tw} {n : Nat} {l : List (Nat × Nat × Nat)} {x : Nat × Nat × Nat} {q q1 q3 : Bl} {d : Nat} (h : runA T n l 0 q = (false, d, q1)) (hn : ¬ (axP T n x q1).1 < 0) (e : q3 = (axP T n x q1).2) : runA T n (l ++ [x]) 0 q = (false, d + 1, q3) := by
  rw [runA_snoc, h, if_neg (fun z => nomatch z), if_neg hn, e]
set_option maxHeartbeats 4000000 in
theorem hw_3 {X : Cx} {S : Sx} {K : Kx} {A : Nat → Prop} {E : Ex} {sc N mi : Nat} {xs : Nat → Int32} (hE : Stb E) (hF : ∀ (A : Nat → Prop) (s : State), E A s → KF S K A s s.heap) (hx : ∀ (A : Nat → Prop) (s : State), E A s → EX S K sc N xs A s) (hV : ∀ (A : Nat → Prop) (s : State), E A s → PVs s) (hM : ∀ (A : Nat → Prop) (s : State), E A s → va_Mi oaN mi s ∧ va_Dc s) (hN : N < 2 ^ 31) (hX : Yok X S K A cX12_holds RX12 23 rmY_X12_holds) (hE2 : YE X A E)  {n p rr : Nat} {b ra rb : Nat → Nat} {T : Tw} (hr : RuOk T (nI rr)) {lb : Nat} {kc kn : Nat} (hkc : kc ≤ 15000) (hkn : kn ≤ 130000)  {i m9 k d : Nat} {bad : Bool} (hi2 : i < 63) {a2 a1 : Nat → Nat} {w : Wd} {q q1 : Bl} {v : Wz} {el cap : Nat} {mo : Int32}  {kd av bv s2 v2 : Nat} {l : List (Nat × Nat × Nat)} {its : Int32} {q3 : Bl} {u0 : Nat} (hl : l.length = k) (hk3 : k < m9) (hm3 : m9 ≤ 3) (hd3 : d ≤ k) (hx3 : okA (kd, av, bv)) {qq : Bl} (hrun : runA T n l 0 qq = (bad, d, q1)) (hc : (bad = true ∧ q3 = q1) ∨ (bad = false ∧ (its < 0 ↔ (axP T n (kd, av, bv) q1).1 < 0) ∧ q3 = (axP T n (kd, av, bv) q1).2))  (kk : ∀ (bad2 : Bool) (d2 : Nat), d2 ≤ k + 1 → runA T n (l ++ [(kd, av, bv)]) 0 qq = (bad2, d2, q3) → Y X S K A kc kn [wsOf S w, stB S n p a1 q3, bnC S K n p b ra rb (T 4 2) (T 4 3) (T 4 4) (nI rr), rwC S n ra (T 0) (T 1), rwC S p rb (T 2) (T 3), hdC lb el mo (nI (esW v).length), arB K el cap (elF (esW v)), wasC S n p v, stB S n p a2 q, stD K s2 v2 (lnL (l ++ [(kd, av, bv)]))] 418 [(17, .int (nI (k + 1))), (16, .int (nB bad2)), (15, .int (nI d2)), (14, .int (nI m9)), (13, .ref s2), (10, .ref (a2 0)), (8, .int (xs i)), (7, .int (nI i)), (0, .ref (b 0)), (1, .ref sc), (2, rf S 0), (3, .ref (a1 0)), (4, .ref lb), (6, .int (nI n))] []) : Y X S K A kc kn [wsOf S w, stB S n p a1 q3, bnC S K n p b ra rb (T 4 2) (T 4 3) (T 4 4) (nI rr), rwC S n ra (T 0) (T 1), rwC S p rb (T 2) (T 3), hdC lb el mo (nI (esW v).length), arB K el cap (elF (esW v)), wasC S n p v, stB S n p a2 q, stD K s2 v2 (lnL (l ++ [(kd, av, bv)]))] 801 [(21, .int its), (17, .int (nI k)), (16, .int (nB bad)), (15, .int (nI d)), (14, .int (nI m9)), (13, .ref s2), (10, .ref (a2 0)), (8, .int (xs i)), (7, .int (nI i)), (0, .ref (b 0)), (1, .ref sc), (2, rf S 0), (3, .ref (a1 0)), (4, .ref lb), (6, .int (nI n))] [] := by
  rcases hc with ⟨hbd, e3⟩ | ⟨hbd, hi3, e3⟩
  · subst hbd
    refine Y_iload hX dX12_holds_801 2 rfl ?_
    refine Y_if_ne (tgt := 811) hX dX12_holds_803 (by decide) (fun _ => ?_) (fun z => absurd z (by decide))
    refine Y_iconst (v := 1) hX dX12_holds_811 (by decide) ?_
    refine Y_goto (tgt := 816) hX dX12_holds_812 (by decide) ?_
    refine Y_istore (lv' := [(16, .int 1), (21, .int its), (17, .int (nI k)), (15, .int (nI d)), (14, .int (nI m9)), (13, .ref s2), (10, .ref (a2 0)), (8, .int (xs i)), (7, .int (nI i)), (0, .ref (b 0)), (1, .ref sc), (2, rf S 0), (3, .ref (a1 0)), (4, .ref lb), (6, .int (nI n))]) hX dX12_holds_816 (by decide) rfl ?_
    refine Y_iload hX dX12_holds_818 0 rfl ?_
    refine Y_if_ne (tgt := 826) hX dX12_holds_820 (by decide) (fun _ => ?_) (fun z => absurd z (by decide))
    refine Y_iinc (v := nI (k + 1)) (lv' := [(17, .int (nI (k + 1))), (16, .int 1), (21, .int its), (15, .int (nI d)), (14, .int (nI m9)), (13, .ref s2), (10, .ref (a2 0)), (8, .int (xs i)), (7, .int (nI i)), (0, .ref (b 0)), (1, .ref sc), (2, rf S 0), (3, .ref (a1 0)), (4, .ref lb), (6, .int (nI n))]) hX dX12_holds_826 (j := 2) rfl (by decide) (iinc1 k) rfl ?_
    refine Y_goto (tgt := 418) hX dX12_holds_829 (by decide) ?_
    refine Y_sub (lv' := [(17, .int (nI (k + 1))), (16, .int (nB true)), (15, .int (nI d)), (14, .int (nI m9)), (13, .ref s2), (10, .ref (a2 0)), (8, .int (xs i)), (7, .int (nI i)), (0, .ref (b 0)), (1, .ref sc), (2, rf S 0), (3, .ref (a1 0)), (4, .ref lb), (6, .int (nI n))]) [0, 1, 3, 4, 5, 6, 7, 8, 9, 10, 11, 12, 13, 14] rfl ?_
    exact kk true d (by omega) (run_bad hrun e3)
  · subst hbd
    refine Y_iload hX dX12_holds_801 2 rfl ?_
    refine Y_if_ne (tgt := 811) hX dX12_holds_803 (by decide) (fun z => absurd (by decide) z) (fun _ => ?_)
    refine Y_iload hX dX12_holds_806 0 rfl ?_
    refine Y_if_ge (tgt := 815) hX dX12_holds_808 (by decide) (fun h808 => ?_) (fun h808 => ?_)
    · refine Y_iconst (v := 0) hX dX12_holds_815 (by decide) ?_
      refine Y_istore (lv' := [(16, .int 0), (21, .int its), (17, .int (nI k)), (15, .int (nI d)), (14, .int (nI m9)), (13, .ref s2), (10, .ref (a2 0)), (8, .int (xs i)), (7, .int (nI i)), (0, .ref (b 0)), (1, .ref sc), (2, rf S 0), (3, .ref (a1 0)), (4, .ref lb), (6, .int (nI n))]) hX dX12_holds_816 (by decide) rfl ?_
      refine Y_iload hX dX12_holds_818 0 rfl ?_
      refine Y_if_ne (tgt := 826) hX dX12_holds_820 (by decide) (fun z => absurd (by decide) z) (fun _ => ?_)
      refine Y_iinc (v := nI (d + 1)) (lv' := [(15, .int (nI (d + 1))), (16, .int 0), (21, .int its), (17, .int (nI k)), (14, .int (nI m9)), (13, .ref s2), (10, .ref (a2 0)), (8, .int (xs i)), (7, .int (nI i)), (0, .ref (b 0)), (1, .ref sc), (2, rf S 0), (3, .ref (a1 0)), (4, .ref lb), (6, .int (nI n))]) hX dX12_holds_823 (j := 3) rfl (by decide) (iinc1 d) rfl ?_
      refine Y_iinc (v := nI (k + 1)) (lv' := [(17, .int (nI (k + 1))), (15, .int (nI (d + 1))), (16, .int 0), (21, .int its), (14, .int (nI m9)), (13, .ref s2), (10, .ref (a2 0)), (8, .int (xs i)), (7, .int (nI i)), (0, .ref (b 0)), (1, .ref sc), (2, rf S 0), (3, .ref (a1 0)), (4, .ref lb), (6, .int (nI n))]) hX dX12_holds_826 (j := 3) rfl (by decide) (iinc1 k) rfl ?_
      refine Y_goto (tgt := 418) hX dX12_holds_829 (by decide) ?_
      refine Y_sub (lv' := [(17, .int (nI (k + 1))), (16, .int (nB false)), (15, .int (nI (d + 1))), (14, .int (nI m9)), (13, .ref s2), (10, .ref (a2 0)), (8, .int (xs i)), (7, .int (nI i)), (0, .ref (b 0)), (1, .ref sc), (2, rf S 0), (3, .ref (a1 0)), (4, .ref lb), (6, .int (nI n))]) [0, 2, 1, 4, 5, 6, 7, 8, 9, 10, 11, 12, 13, 14] rfl ?_
      exact kk false (d + 1) (by omega) (run_pos hrun (fun z => absurd (hi3.mpr z) (Int32.not_lt.mpr h808)) e3)
    · refine Y_iconst (v := 1) hX dX12_holds_811 (by decide) ?_
      refine Y_goto (tgt := 816) hX dX12_holds_812 (by decide) ?_
      refine Y_istore (lv' := [(16, .int 1), (21, .int its), (17, .int (nI k)), (15, .int (nI d)), (14, .int (nI m9)), (13, .ref s2), (10, .ref (a2 0)), (8, .int (xs i)), (7, .int (nI i)), (0, .ref (b 0)), (1, .ref sc), (2, rf S 0), (3, .ref (a1 0)), (4, .ref lb), (6, .int (nI n))]) hX dX12_holds_816 (by decide) rfl ?_
      refine Y_iload hX dX12_holds_818 0 rfl ?_
      refine Y_if_ne (tgt := 826) hX dX12_holds_820 (by decide) (fun _ => ?_) (fun z => absurd z (by decide))
      refine Y_iinc (v := nI (k + 1)) (lv' := [(17, .int (nI (k + 1))), (16, .int 1), (21, .int its), (15, .int (nI d)), (14, .int (nI m9)), (13, .ref s2), (10, .ref (a2 0)), (8, .int (xs i)), (7, .int (nI i)), (0, .ref (b 0)), (1, .ref sc), (2, rf S 0), (3, .ref (a1 0)), (4, .ref lb), (6, .int (nI n))]) hX dX12_holds_826 (j := 2) rfl (by decide) (iinc1 k) rfl ?_
      refine Y_goto (tgt := 418) hX dX12_holds_829 (by decide) ?_
      refine Y_sub (lv' := [(17, .int (nI (k + 1))), (16, .int (nB true)), (15, .int (nI d)), (14, .int (nI m9)), (13, .ref s2), (10, .ref (a2 0)), (8, .int (xs i)), (7, .int (nI i)), (0, .ref (b 0)), (1, .ref sc), (2, rf S 0), (3, .ref (a1 0)), (4, .ref lb), (6, .int (nI n))]) [0, 1, 3, 4, 5, 6, 7, 8, 9, 10, 11, 12, 13, 14] rfl ?_
      exact kk true d (by omega) (run_neg hrun (hi3.mp (Int32.not_le.mp h808)) e3)
set_option maxHeartbeats 8000000 in
theorem hw_l {X : Cx} {S : Sx} {K : Kx} {A : Nat → Prop} {E : Ex} {sc N mi : Nat} {xs : Nat → Int32} (hE : Stb E) (hF : ∀ (A : Nat → Prop) (s : State), E A s → KF S K A s s.heap) (hx : ∀ (A : Nat → Prop) (s : State), E A s → EX S K sc N xs A s) (hV : ∀ (A : Nat → Prop) (s : State), E A s → PVs s) (hM : ∀ (A : Nat → Prop) (s : State), E A s → va_Mi oaN mi s ∧ va_Dc s) (hN : N < 2 ^ 31) (hX : Yok X S K A cX12_holds RX12 23 rmY_X12_holds) (hE2 : YE X A E)  {n p rr : Nat} {b ra rb : Nat → Nat} {T : Tw} (hr : RuOk T (nI rr)) {lb : Nat} {kc kn : Nat} (hkc : kc ≤ 14400) (hkn : kn ≤ 124000)  {i m9 : Nat} (hi2 : i < 63) (hm1 : 1 ≤ m9) (hm3 : m9 ≤ 3) {a2 : Nat → Nat} {w : Wd} {q : Bl} {v : Wz} {el cap : Nat} {mo : Int32} {N9 : Nat} (ok : okTw T n p N9)  (kk : ∀ (l1 : List (Nat × Nat × Nat)) (bad1 : Bool) (d1 : Nat) (a3 : Nat → Nat) (q3 : Bl) (ls1 lv1 : Nat), l1.length = m9 → (∀ x, x ∈ l1 → okA x) → d1 ≤ m9 → runA T n l1 0 q = (bad1, d1, q3) → Y X S K A (kc + 216) (kn + 1776) [wsOf S w, stB S n p a3 q3, bnC S K n p b ra rb (T 4 2) (T 4 3) (T 4 4) (nI rr), rwC S n ra (T 0) (T 1), rwC S p rb (T 2) (T 3), hdC lb el mo (nI (esW v).length), arB K el cap (elF (esW v)), wasC S n p v, stB S n p a2 q, lnC K ls1 lv1 (lnL l1)] 832 [(16, .int (nB bad1)), (15, .int (nI d1)), (14, .int (nI m9)), (13, .ref ls1), (10, .ref (a2 0)), (8, .int (xs i)), (7, .int (nI i)), (0, .ref (b 0)), (1, .ref sc), (2, rf S 0), (3, .ref (a3 0)), (4, .ref lb), (6, .int (nI n))] []) : ∀ (j k : Nat), k + j = m9 → ∀ (l : List (Nat × Nat × Nat)) (bad : Bool) (d : Nat) (a1 : Nat → Nat) (q1 : Bl) (ls lv : Nat), l.length = k → (∀ x, x ∈ l → okA x) → d ≤ k → (lnL l = [] → ls = adK S 1 ∧ lv = adV S 1) → (∃ K9, BlI q1 n p K9) → runA T n l 0 q = (bad, d, q1) → Y X S K A (kc + 72 * k) (kn + 592 * k) [wsOf S w, stB S n p a1 q1, bnC S K n p b ra rb (T 4 2) (T 4 3) (T 4 4) (nI rr), rwC S n ra (T 0) (T 1), rwC S p rb (T 2) (T 3), hdC lb el mo (nI (esW v).length), arB K el cap (elF (esW v)), wasC S n p v, stB S n p a2 q, lnC K ls lv (lnL l)] 418 [(17, .int (nI k)), (16, .int (nB bad)), (15, .int (nI d)), (14, .int (nI m9)), (13, .ref ls), (10, .ref (a2 0)), (8, .int (xs i)), (7, .int (nI i)), (0, .ref (b 0)), (1, .ref sc), (2, rf S 0), (3, .ref (a1 0)), (4, .ref lb), (6, .int (nI n))] [] := by
  intro j
  induction j with
  | zero =>
    intro k hk l bad d a1 q1 ls lv hl hok hd hln hq hrun
    obtain hk2 : k = m9 := by omega
    subst hk2
    refine Y_iload hX dX12_holds_418 0 rfl ?_
    refine Y_iload hX dX12_holds_420 3 rfl ?_
    refine Y_icmp_ge (tgt := 832) hX dX12_holds_422 (by decide) (fun _ => ?_) (fun z => absurd (nI_le (Nat.le_refl _) (by omega)) z)
    refine Y_sub (lv' := [(16, .int (nB bad)), (15, .int (nI d)), (14, .int (nI k)), (13, .ref ls), (10, .ref (a2 0)), (8, .int (xs i)), (7, .int (nI i)), (0, .ref (b 0)), (1, .ref sc), (2, rf S 0), (3, .ref (a1 0)), (4, .ref lb), (6, .int (nI n))]) [1, 2, 3, 4, 5, 6, 7, 8, 9, 10, 11, 12, 13] rfl ?_
    refine Y_wd (kc' := kc + 216) (kn' := kn + 1776) (by omega) (by omega) ?_
    exact kk l bad d a1 q1 ls lv hl hok hd hrun
  | succ j ih =>
    intro k hk l bad d a1 q1 ls lv hl hok hd hln hq hrun
    obtain ⟨K9, hq⟩ := hq
    refine Y_iload hX dX12_holds_418 0 rfl ?_
    refine Y_iload hX dX12_holds_420 3 rfl ?_
    refine Y_icmp_ge (tgt := 832) hX dX12_holds_422 (by decide) (fun z => absurd z (nI_ge (show k < m9 by omega) (by omega))) (fun _ => ?_)
    refine hw_1 hE hF hx hV hM hN hX hE2 hr (kc := kc + 72 * k) (kn := kn + 592 * k) (by omega) (by omega) hi2 hln hl (by omega) hok (fun kv av bv s1 v1 hkv hav hbv => ?_)
    have hlen := ln_len l hok
    have hX8 : (lnL l ++ sepK k).length ≤ 9 := by have := sep_len k; rw [List.length_append]; omega
    have hfx := CL_app (CL_ln l hok) (CL_sep k)
    have fin : ∀ (kd : Nat), kd < 5 → ∀ (s2 v2 : Nat) (a3 : Nat → Nat) (q3 : Bl) (its : Int32), ((bad = true ∧ q3 = q1) ∨ (bad = false ∧ (its < 0 ↔ (axP T n (kd, av, bv) q1).1 < 0) ∧ q3 = (axP T n (kd, av, bv) q1).2)) → Y X S K A (kc + 72 * (k + 1)) (kn + 592 * (k + 1)) [wsOf S w, stB S n p a3 q3, bnC S K n p b ra rb (T 4 2) (T 4 3) (T 4 4) (nI rr), rwC S n ra (T 0) (T 1), rwC S p rb (T 2) (T 3), hdC lb el mo (nI (esW v).length), arB K el cap (elF (esW v)), wasC S n p v, stB S n p a2 q, stD K s2 v2 ((lnL l ++ sepK k) ++ txA (kd, av, bv))] 801 [(21, .int its), (17, .int (nI k)), (16, .int (nB bad)), (15, .int (nI d)), (14, .int (nI m9)), (13, .ref s2), (10, .ref (a2 0)), (8, .int (xs i)), (7, .int (nI i)), (0, .ref (b 0)), (1, .ref sc), (2, rf S 0), (3, .ref (a3 0)), (4, .ref lb), (6, .int (nI n))] [] := by
      intro kd hkd s2 v2 a3 q3 its hc
      rw [ln_next hl]
      have hx3 : okA (kd, av, bv) := ⟨hkd, hav, hbv⟩
      refine hw_3 hE hF hx hV hM hN hX hE2 hr (kc := kc + 72 * (k + 1)) (kn := kn + 592 * (k + 1)) (by omega) (by omega) hi2 (u0 := 0) hl (by omega) hm3 hd hx3 hrun hc (fun bad2 d2 hd2 hrun2 => ?_)
      have hok2 : ∀ x, x ∈ l ++ [(kd, av, bv)] → okA x := fun x hx => by
        rcases List.mem_append.mp hx with h | h
        · exact hok x h
        · rw [List.mem_singleton.mp h]; exact hx3
      have hne : lnL (l ++ [(kd, av, bv)]) ≠ [] := fun z => by have := ln_one (l := l ++ [(kd, av, bv)]) (by simp) hok2; rw [z] at this; exact absurd this (by decide)
      have hq3 : ∃ K9, BlI q3 n p K9 := by
        rcases hc with ⟨-, e⟩ | ⟨-, -, e⟩
        · rw [e]; exact ⟨_, hq⟩
        · rw [e]; exact axP_Bl ok hq _
      have z := ih (k + 1) (by omega) (l ++ [(kd, av, bv)]) bad2 d2 a3 q3 s2 v2 (by rw [List.length_append, hl]; rfl) hok2 hd2 (fun z => absurd z hne) hq3 hrun2
      rw [lnC_st hne] at z
      exact z
    have hkv5 : kv = 0 ∨ kv = 1 ∨ kv = 2 ∨ kv = 3 ∨ kv = 4 := by omega
    rcases hkv5 with rfl | rfl | rfl | rfl | rfl
    · exact hw_2_0 hE hF hx hV hM hN hX hE2 hr (kc := kc + 72 * k + 4) (kn := kn + 592 * k + 40) (by omega) (by omega) hi2 (kv := 0) hX8 hfx hav hbv ok hq (fun s2 v2 a3 q3 its hc => Y_wd (by omega) (by omega) (fin 0 (by decide) s2 v2 a3 q3 its hc))
    · exact hw_2_1 hE hF hx hV hM hN hX hE2 hr (kc := kc + 72 * k + 4) (kn := kn + 592 * k + 40) (by omega) (by omega) hi2 (kv := 1) hX8 hfx hav hbv ok hq (fun s2 v2 a3 q3 its hc => Y_wd (by omega) (by omega) (fin 1 (by decide) s2 v2 a3 q3 its hc))
    · exact hw_2_2 hE hF hx hV hM hN hX hE2 hr (kc := kc + 72 * k + 4) (kn := kn + 592 * k + 40) (by omega) (by omega) hi2 (kv := 2) hX8 hfx hav hbv ok hq (fun s2 v2 a3 q3 its hc => Y_wd (by omega) (by omega) (fin 2 (by decide) s2 v2 a3 q3 its hc))
    · exact hw_2_3 hE hF hx hV hM hN hX hE2 hr (kc := kc + 72 * k + 4) (kn := kn + 592 * k + 40) (by omega) (by omega) hi2 (kv := 3) hX8 hfx hav hbv ok hq (fun s2 v2 a3 q3 its hc => Y_wd (by omega) (by omega) (fin 3 (by decide) s2 v2 a3 q3 its hc))
    · exact hw_2_4 hE hF hx hV hM hN hX hE2 hr (kc := kc + 72 * k + 4) (kn := kn + 592 * k + 40) (by omega) (by omega) hi2 (kv := 4) hX8 hfx hav hbv ok hq (fun s2 v2 a3 q3 its hc => Y_wd (by omega) (by omega) (fin 4 (by decide) s2 v2 a3 q3 its hc))
set_option maxHeartbeats 8000000 in
theorem hw_4 {X : Cx} {S : Sx} {K : Kx} {A : Nat → Prop} {E : Ex} {sc N mi : Nat} {xs : Nat → Int32} (hE : Stb E) (hF : ∀ (A : Nat → Prop) (s : State), E A s → KF S K A s s.heap) (hx : ∀ (A : Nat → Prop) (s : State), E A s → EX S K sc N xs A s) (hV : ∀ (A : Nat → Prop) (s : State), E A s → PVs s) (hM : ∀ (A : Nat → Prop) (s : State), E A s → va_Mi oaN mi s ∧ va_Dc s) (hN : N < 2 ^ 31) (hX : Yok X S K A cX12_holds RX12 23 rmY_X12_holds) (hE2 : YE X A E)  {n p rr : Nat} {b ra rb : Nat → Nat} {T : Tw} (hr : RuOk T (nI rr)) {lb : Nat} {kc kn : Nat} (hkc : kc ≤ 15000) (hkn : kn ≤ 130000)  {i m9 d1 : Nat} (hi2 : i < 63) (hm1 : 1 ≤ m9) (hm3 : m9 ≤ 3) {a2 a3 : Nat → Nat} {w : Wd} {q q3 : Bl} {v : Wz} {u : Us} {t : Nat → Int32} {L : List Int64} {el cap : Nat} {mo : Int32} {bad1 : Bool} {l1 : List (Nat × Nat × Nat)} {ls1 lv1 : Nat} (hl : l1.length = m9) (hok : ∀ x, x ∈ l1 → okA x) (hd : d1 ≤ m9) (hrun : runA T n l1 0 q = (bad1, d1, q3)) (g : CQ w T q n p u t 0 L)  (kk : ∀ (kf : Bool) (w1 : Wd) (a1 : Nat → Nat) (q1 : Bl) (t1 : Nat → Int32) (L1 : List Int64), CQ w1 T q1 n p (if kf = true then psh q u else u) t1 0 L1 → Y X S K A (kc + 5) (kn + 60) [wsOf S w1, stB S n p a1 q1, bnC S K n p b ra rb (T 4 2) (T 4 3) (T 4 4) (nI rr), rwC S n ra (T 0) (T 1), rwC S p rb (T 2) (T 3), hdC lb el mo (nI (esW v).length), arB K el cap (elF (esW v)), wasC S n p v, stB S n p a2 q] 969 [(11, .int (nB kf)), (10, .ref (a2 0)), (7, .int (nI i)), (0, .ref (b 0)), (1, .ref sc), (2, rf S 0), (3, .ref (a1 0)), (4, .ref lb), (6, .int (nI n))] []) : Y X S K A kc kn [wsOf S w, stB S n p a3 q3, bnC S K n p b ra rb (T 4 2) (T 4 3) (T 4 4) (nI rr), rwC S n ra (T 0) (T 1), rwC S p rb (T 2) (T 3), hdC lb el mo (nI (esW v).length), arB K el cap (elF (esW v)), wasC S n p v, stB S n p a2 q, lnC K ls1 lv1 (lnL l1)] 832 [(16, .int (nB bad1)), (15, .int (nI d1)), (14, .int (nI m9)), (13, .ref ls1), (10, .ref (a2 0)), (8, .int (xs i)), (7, .int (nI i)), (0, .ref (b 0)), (1, .ref sc), (2, rf S 0), (3, .ref (a3 0)), (4, .ref lb), (6, .int (nI n))] [] := by
  have hne : l1 ≠ [] := fun z => by rw [z] at hl; exact absurd hl (by show ¬ 0 = m9; omega)
  have hl3 : l1.length ≤ 3 := by omega
  have hlen := ln_len l1 hok
  have hlnn : lnL l1 ≠ [] := fun z => by have := ln_one hne hok; rw [z] at this; exact absurd this (by decide)
  rw [lnC_st hlnn]
  refine Y_iload hX dX12_holds_832 1 rfl ?_
  refine Y_if_le (tgt := 841) hX dX12_holds_834 (by decide) (fun h834 => ?_) (fun h834 => ?_)
  · have hdz : d1 = 0 := by have := (nI_leI (a := d1) (b := 0) (by omega) (by decide)).mp h834; omega
    refine Y_iconst (v := 0) hX dX12_holds_841 (by decide) ?_
    refine Y_istore (lv' := [(11, .int 0), (16, .int (nB bad1)), (15, .int (nI d1)), (14, .int (nI m9)), (13, .ref ls1), (10, .ref (a2 0)), (8, .int (xs i)), (7, .int (nI i)), (0, .ref (b 0)), (1, .ref sc), (2, rf S 0), (3, .ref (a3 0)), (4, .ref lb), (6, .int (nI n))]) hX dX12_holds_842 (by decide) rfl ?_
    refine Y_aload_n hX dX12_holds_844 10 rfl ?_
    refine Y_aload hX dX12_holds_845 4 rfl ?_
    obtain ⟨K847, h847⟩ := g
    refine Y_resEi hX (sub := [wsOf S w]) (rst := [stB S n p a3 q3, bnC S K n p b ra rb (T 4 2) (T 4 3) (T 4 4) (nI rr), rwC S n ra (T 0) (T 1), rwC S p rb (T 2) (T 3), hdC lb el mo (nI (esW v).length), arB K el cap (elF (esW v)), wasC S n p v, stB S n p a2 q, stD K ls1 lv1 (lnL l1)]) rfl (Y_runS (As := [rf S 0, .ref ls1]) (rest := []) hX hE2 mk_X12_150 nkY_X12_text (ES.stb S K (ls1, lv1, lnL l1)) (cY_X12_text (ES.stb S K (ls1, lv1, lnL l1)) (fun A s h => h.1) (ls1, lv1, lnL l1) (fun A s h => h.2) (by show (lnL l1).length ≤ 40; omega) (CL_ln l1 hok) h847) rfl (Ecall.str hF rfl 8 rfl) ⟨rfl, rfl⟩ ⟨Nat.le_of_ble_eq_true rfl, Nat.le_of_ble_eq_true rfl⟩ rfl rfl (Nat.le_of_ble_eq_true rfl) dX12_holds_847 ⟨by show _ ≤ 20000; omega, by show _ ≤ 150000; omega⟩) (fun u847 hu847 => ?_)
    show Y X S K A kc kn [wsOf S u847.2.1, stB S n p a3 q3, bnC S K n p b ra rb (T 4 2) (T 4 3) (T 4 4) (nI rr), rwC S n ra (T 0) (T 1), rwC S p rb (T 2) (T 3), hdC lb el mo (nI (esW v).length), arB K el cap (elF (esW v)), wasC S n p v, stB S n p a2 q, stD K ls1 lv1 (lnL l1)] 850 [(11, .int 0), (16, .int (nB bad1)), (15, .int (nI d1)), (14, .int (nI m9)), (13, .ref ls1), (10, .ref (a2 0)), (8, .int (xs i)), (7, .int (nI i)), (0, .ref (b 0)), (1, .ref sc), (2, rf S 0), (3, .ref (a3 0)), (4, .ref lb), (6, .int (nI n))] [.int 1]
    have g847 : CQ u847.2.1 T q n p u (fun k => (lnL l1).getD k 0) (lnL l1).length L := ⟨_, hu847⟩
    refine Y_if_eq (tgt := 899) hX dX12_holds_850 (by decide) (fun z => absurd z (show ¬ (1 : Int32) = 0 by decide)) (fun _ => ?_)
    refine Y_aload_n hX dX12_holds_853 10 rfl ?_
    obtain ⟨w854, t854, e854, g854⟩ := q_line g847 hne hl3 hok (by omega) (ln_one hne hok)
    rw [hrun] at e854 g854
    refine Y_callCi (w2 := w854) (v := nI d1) (As := []) (rest := []) hX hE2 hF mk_X12_250 nk_X10_watch (fun l => c_X10_watch l S e854) rfl tb_0 rfl ⟨rfl, rfl, Nat.le_of_ble_eq_true rfl, Nat.le_of_ble_eq_true rfl⟩ rfl rfl (Nat.le_of_ble_eq_true rfl) dX12_holds_854 ⟨by show _ ≤ 20000; omega, by show _ ≤ 150000; omega⟩ ?_
    show Y X S K A kc kn [wsOf S w854, stB S n p a3 q3, bnC S K n p b ra rb (T 4 2) (T 4 3) (T 4 4) (nI rr), rwC S n ra (T 0) (T 1), rwC S p rb (T 2) (T 3), hdC lb el mo (nI (esW v).length), arB K el cap (elF (esW v)), wasC S n p v, stB S n p a2 q, stD K ls1 lv1 (lnL l1)] 857 [(11, .int 0), (16, .int (nB bad1)), (15, .int (nI d1)), (14, .int (nI m9)), (13, .ref ls1), (10, .ref (a2 0)), (8, .int (xs i)), (7, .int (nI i)), (0, .ref (b 0)), (1, .ref sc), (2, rf S 0), (3, .ref (a3 0)), (4, .ref lb), (6, .int (nI n))] [.int (nI d1)]
    refine Y_iload hX dX12_holds_857 2 rfl ?_
    refine Y_icmp_ne (tgt := 899) hX dX12_holds_859 (by decide) (fun z => absurd rfl z) (fun _ => ?_)
    refine Y_aload_n hX dX12_holds_862 10 rfl ?_
    refine Y_iconst (v := 2) hX dX12_holds_863 (by decide) ?_
    refine Y_newa (at0 := .long) (t0 := 1) (n := 2) (a0 := (2, .inr (.inl (fun _ => 0)))) hX rfl ac_long rfl (fun _ => rfl) ⟨by decide, by decide, Nat.le_of_ble_eq_true rfl⟩ ⟨by show _ ≤ 20000; omega, by show _ ≤ 150000; omega⟩ dX12_holds_864 (fun qd => ?_)
    show Y X S K A (kc + 1) (kn + 2) [wsOf S w854, stB S n p a3 q3, bnC S K n p b ra rb (T 4 2) (T 4 3) (T 4 4) (nI rr), rwC S n ra (T 0) (T 1), rwC S p rb (T 2) (T 3), hdC lb el mo (nI (esW v).length), arB K el cap (elF (esW v)), wasC S n p v, stB S n p a2 q, stD K ls1 lv1 (lnL l1), [(qd, .inl (cAr S 1, 2, .inr (.inl (fun _ => 0))))]] 866 [(11, .int 0), (16, .int (nB bad1)), (15, .int (nI d1)), (14, .int (nI m9)), (13, .ref ls1), (10, .ref (a2 0)), (8, .int (xs i)), (7, .int (nI i)), (0, .ref (b 0)), (1, .ref sc), (2, rf S 0), (3, .ref (a3 0)), (4, .ref lb), (6, .int (nI n))] [.ref qd, rf S 0]
    refine Y_dup hX dX12_holds_866 rfl ?_
    refine Y_iconst (v := 0) hX dX12_holds_867 (by decide) ?_
    refine Y_iload hX dX12_holds_868 1 rfl ?_
    refine Y_if_eq (tgt := 877) hX dX12_holds_870 (by decide) (fun h870 => ?_) (fun h870 => ?_)
    · refine Y_lconst (v := 0) hX dX12_holds_877 rfl ?_
      refine Y_last 10 0 hX rfl rfl (inB_in (by decide)) dX12_holds_878 ?_
      show Y X S K A (kc + 1) (kn + 2) [wsOf S w854, stB S n p a3 q3, bnC S K n p b ra rb (T 4 2) (T 4 3) (T 4 4) (nI rr), rwC S n ra (T 0) (T 1), rwC S p rb (T 2) (T 3), hdC lb el mo (nI (esW v).length), arB K el cap (elF (esW v)), wasC S n p v, stB S n p a2 q, stD K ls1 lv1 (lnL l1), [(qd, .inl (cAr S 1, 2, .inr (.inl (vp_updL (fun _ => 0) (0 : Int32).toNatClampNeg 0))))]] 879 [(11, .int 0), (16, .int (nB bad1)), (15, .int (nI d1)), (14, .int (nI m9)), (13, .ref ls1), (10, .ref (a2 0)), (8, .int (xs i)), (7, .int (nI i)), (0, .ref (b 0)), (1, .ref sc), (2, rf S 0), (3, .ref (a3 0)), (4, .ref lb), (6, .int (nI n))] [.ref qd, rf S 0]
      refine Y_dup hX dX12_holds_879 rfl ?_
      refine Y_iconst (v := 1) hX dX12_holds_880 (by decide) ?_
      refine Y_aload_n hX dX12_holds_881 11 rfl ?_
      refine Y_get 1 0 hX fk_X12_102 rfl rfl rfl dX12_holds_882 ?_
      refine Y_aload hX dX12_holds_885 5 rfl ?_
      refine Y_get 8 0 hX fk_X12_102 rfl rfl rfl dX12_holds_887 ?_
      refine Y_isub hX dX12_holds_890 ?_
      refine Y_i2l hX dX12_holds_891 ?_
      refine Y_last 10 0 hX rfl rfl (inB_in (by decide)) dX12_holds_892 ?_
      show Y X S K A (kc + 1) (kn + 2) [wsOf S w854, stB S n p a3 q3, bnC S K n p b ra rb (T 4 2) (T 4 3) (T 4 4) (nI rr), rwC S n ra (T 0) (T 1), rwC S p rb (T 2) (T 3), hdC lb el mo (nI (esW v).length), arB K el cap (elF (esW v)), wasC S n p v, stB S n p a2 q, stD K ls1 lv1 (lnL l1), [(qd, .inl (cAr S 1, 2, .inr (.inl (vp_updL (vp_updL (fun _ => 0) (0 : Int32).toNatClampNeg 0) (1 : Int32).toNatClampNeg (Int32.toInt64 ((q3 13) - (q 13)))))))]] 893 [(11, .int 0), (16, .int (nB bad1)), (15, .int (nI d1)), (14, .int (nI m9)), (13, .ref ls1), (10, .ref (a2 0)), (8, .int (xs i)), (7, .int (nI i)), (0, .ref (b 0)), (1, .ref sc), (2, rf S 0), (3, .ref (a3 0)), (4, .ref lb), (6, .int (nI n))] [.ref qd, rf S 0]
      have hL : i64 (if bad1 = true then 1 else 0) = 0 := by rw [if_neg (by rw [nB_f h870]; decide)]; decide
      have g854b := g854
      rw [hL] at g854b
      refine Y_pick [0, 10, 1, 2, 3, 4, 5, 6, 7, 8, 9] (by decide) rfl ?_
      show Y X S K A (kc + 1) (kn + 2) [wsOf S w854, [(qd, .inl (cAr S 1, 2, .inr (.inl (vp_updL (vp_updL (fun _ => 0) (0 : Int32).toNatClampNeg 0) (1 : Int32).toNatClampNeg (Int32.toInt64 ((q3 13) - (q 13)))))))], stB S n p a3 q3, bnC S K n p b ra rb (T 4 2) (T 4 3) (T 4 4) (nI rr), rwC S n ra (T 0) (T 1), rwC S p rb (T 2) (T 3), hdC lb el mo (nI (esW v).length), arB K el cap (elF (esW v)), wasC S n p v, stB S n p a2 q, stD K ls1 lv1 (lnL l1)] 893 [(11, .int 0), (16, .int (nB bad1)), (15, .int (nI d1)), (14, .int (nI m9)), (13, .ref ls1), (10, .ref (a2 0)), (8, .int (xs i)), (7, .int (nI i)), (0, .ref (b 0)), (1, .ref sc), (2, rf S 0), (3, .ref (a3 0)), (4, .ref lb), (6, .int (nI n))] [.ref qd, rf S 0]
      refine Y_resEi hX (sub := [wsOf S w854, [(qd, .inl (cAr S 1, 2, .inr (.inl (vp_updL (vp_updL (fun _ => 0) (0 : Int32).toNatClampNeg 0) (1 : Int32).toNatClampNeg (Int32.toInt64 ((q3 13) - (q 13)))))))]]) (rst := [stB S n p a3 q3, bnC S K n p b ra rb (T 4 2) (T 4 3) (T 4 4) (nI rr), rwC S n ra (T 0) (T 1), rwC S p rb (T 2) (T 3), hdC lb el mo (nI (esW v).length), arB K el cap (elF (esW v)), wasC S n p v, stB S n p a2 q, stD K ls1 lv1 (lnL l1)]) rfl (Y_runS (As := [rf S 0, .ref qd]) (rest := []) hX hE2 mk_X12_51 nkY_X12_isRow hE (cY_X12_isRow hE hF g854b qd 2 (vp_updL (vp_updL (fun _ => 0) (0 : Int32).toNatClampNeg 0) (1 : Int32).toNatClampNeg (Int32.toInt64 ((q3 13) - (q 13)))) (by decide) rfl (row2 _ _ _)) rfl Ecall.same ⟨rfl, rfl⟩ ⟨Nat.le_of_ble_eq_true rfl, Nat.le_of_ble_eq_true rfl⟩ rfl rfl (Nat.le_of_ble_eq_true rfl) dX12_holds_893 ⟨by show _ ≤ 20000; omega, by show _ ≤ 150000; omega⟩) (fun u893 hu893 => ?_)
      show Y X S K A (kc + 1 + 2) (kn + 2 + 12) [wsOf S u893.2.1, [(qd, .inl (cAr S 1, 2, .inr (.inl (vp_updL (vp_updL (fun _ => 0) (0 : Int32).toNatClampNeg 0) (1 : Int32).toNatClampNeg (Int32.toInt64 ((q3 13) - (q 13)))))))], stB S n p a3 q3, bnC S K n p b ra rb (T 4 2) (T 4 3) (T 4 4) (nI rr), rwC S n ra (T 0) (T 1), rwC S p rb (T 2) (T 3), hdC lb el mo (nI (esW v).length), arB K el cap (elF (esW v)), wasC S n p v, stB S n p a2 q, stD K ls1 lv1 (lnL l1)] 896 [(11, .int 0), (16, .int (nB bad1)), (15, .int (nI d1)), (14, .int (nI m9)), (13, .ref ls1), (10, .ref (a2 0)), (8, .int (xs i)), (7, .int (nI i)), (0, .ref (b 0)), (1, .ref sc), (2, rf S 0), (3, .ref (a3 0)), (4, .ref lb), (6, .int (nI n))] [.int 1]
      refine Y_if_ne (tgt := 901) hX dX12_holds_896 (by decide) (fun _ => ?_) (fun z => absurd z (show ¬ (1 : Int32) = 0 by decide))
      refine Y_goto (tgt := 969) hX dX12_holds_901 (by decide) ?_
      refine Y_sub (lv' := [(11, .int (nB false)), (10, .ref (a2 0)), (7, .int (nI i)), (0, .ref (b 0)), (1, .ref sc), (2, rf S 0), (3, .ref (a3 0)), (4, .ref lb), (6, .int (nI n))]) [0, 5, 7, 8, 9, 10, 11, 12, 13] rfl ?_
      refine Y_pick (bl' := [wsOf S u893.2.1, stB S n p a3 q3, bnC S K n p b ra rb (T 4 2) (T 4 3) (T 4 4) (nI rr), rwC S n ra (T 0) (T 1), rwC S p rb (T 2) (T 3), hdC lb el mo (nI (esW v).length), arB K el cap (elF (esW v)), wasC S n p v, stB S n p a2 q]) [0, 2, 3, 4, 5, 6, 7, 8, 9] (by decide) rfl ?_
      refine Y_wd (kc' := kc + 5) (kn' := kn + 60) (by omega) (by omega) ?_
      exact kk false u893.2.1 a3 q3 t854 _ (by rw [if_neg (by decide)]; rw [if_pos hdz] at hu893; exact hu893)
    · refine Y_lconst (v := 1) hX dX12_holds_873 rfl ?_
      refine Y_goto (tgt := 878) hX dX12_holds_874 (by decide) ?_
      refine Y_last 10 0 hX rfl rfl (inB_in (by decide)) dX12_holds_878 ?_
      show Y X S K A (kc + 1) (kn + 2) [wsOf S w854, stB S n p a3 q3, bnC S K n p b ra rb (T 4 2) (T 4 3) (T 4 4) (nI rr), rwC S n ra (T 0) (T 1), rwC S p rb (T 2) (T 3), hdC lb el mo (nI (esW v).length), arB K el cap (elF (esW v)), wasC S n p v, stB S n p a2 q, stD K ls1 lv1 (lnL l1), [(qd, .inl (cAr S 1, 2, .inr (.inl (vp_updL (fun _ => 0) (0 : Int32).toNatClampNeg 1))))]] 879 [(11, .int 0), (16, .int (nB bad1)), (15, .int (nI d1)), (14, .int (nI m9)), (13, .ref ls1), (10, .ref (a2 0)), (8, .int (xs i)), (7, .int (nI i)), (0, .ref (b 0)), (1, .ref sc), (2, rf S 0), (3, .ref (a3 0)), (4, .ref lb), (6, .int (nI n))] [.ref qd, rf S 0]
      refine Y_dup hX dX12_holds_879 rfl ?_
      refine Y_iconst (v := 1) hX dX12_holds_880 (by decide) ?_
      refine Y_aload_n hX dX12_holds_881 11 rfl ?_
      refine Y_get 1 0 hX fk_X12_102 rfl rfl rfl dX12_holds_882 ?_
      refine Y_aload hX dX12_holds_885 5 rfl ?_
      refine Y_get 8 0 hX fk_X12_102 rfl rfl rfl dX12_holds_887 ?_
      refine Y_isub hX dX12_holds_890 ?_
      refine Y_i2l hX dX12_holds_891 ?_
      refine Y_last 10 0 hX rfl rfl (inB_in (by decide)) dX12_holds_892 ?_
      show Y X S K A (kc + 1) (kn + 2) [wsOf S w854, stB S n p a3 q3, bnC S K n p b ra rb (T 4 2) (T 4 3) (T 4 4) (nI rr), rwC S n ra (T 0) (T 1), rwC S p rb (T 2) (T 3), hdC lb el mo (nI (esW v).length), arB K el cap (elF (esW v)), wasC S n p v, stB S n p a2 q, stD K ls1 lv1 (lnL l1), [(qd, .inl (cAr S 1, 2, .inr (.inl (vp_updL (vp_updL (fun _ => 0) (0 : Int32).toNatClampNeg 1) (1 : Int32).toNatClampNeg (Int32.toInt64 ((q3 13) - (q 13)))))))]] 893 [(11, .int 0), (16, .int (nB bad1)), (15, .int (nI d1)), (14, .int (nI m9)), (13, .ref ls1), (10, .ref (a2 0)), (8, .int (xs i)), (7, .int (nI i)), (0, .ref (b 0)), (1, .ref sc), (2, rf S 0), (3, .ref (a3 0)), (4, .ref lb), (6, .int (nI n))] [.ref qd, rf S 0]
      have hL : i64 (if bad1 = true then 1 else 0) = 1 := by rw [if_pos (nB_t h870)]; decide
      have g854b := g854
      rw [hL] at g854b
      refine Y_pick [0, 10, 1, 2, 3, 4, 5, 6, 7, 8, 9] (by decide) rfl ?_
      show Y X S K A (kc + 1) (kn + 2) [wsOf S w854, [(qd, .inl (cAr S 1, 2, .inr (.inl (vp_updL (vp_updL (fun _ => 0) (0 : Int32).toNatClampNeg 1) (1 : Int32).toNatClampNeg (Int32.toInt64 ((q3 13) - (q 13)))))))], stB S n p a3 q3, bnC S K n p b ra rb (T 4 2) (T 4 3) (T 4 4) (nI rr), rwC S n ra (T 0) (T 1), rwC S p rb (T 2) (T 3), hdC lb el mo (nI (esW v).length), arB K el cap (elF (esW v)), wasC S n p v, stB S n p a2 q, stD K ls1 lv1 (lnL l1)] 893 [(11, .int 0), (16, .int (nB bad1)), (15, .int (nI d1)), (14, .int (nI m9)), (13, .ref ls1), (10, .ref (a2 0)), (8, .int (xs i)), (7, .int (nI i)), (0, .ref (b 0)), (1, .ref sc), (2, rf S 0), (3, .ref (a3 0)), (4, .ref lb), (6, .int (nI n))] [.ref qd, rf S 0]
      refine Y_resEi hX (sub := [wsOf S w854, [(qd, .inl (cAr S 1, 2, .inr (.inl (vp_updL (vp_updL (fun _ => 0) (0 : Int32).toNatClampNeg 1) (1 : Int32).toNatClampNeg (Int32.toInt64 ((q3 13) - (q 13)))))))]]) (rst := [stB S n p a3 q3, bnC S K n p b ra rb (T 4 2) (T 4 3) (T 4 4) (nI rr), rwC S n ra (T 0) (T 1), rwC S p rb (T 2) (T 3), hdC lb el mo (nI (esW v).length), arB K el cap (elF (esW v)), wasC S n p v, stB S n p a2 q, stD K ls1 lv1 (lnL l1)]) rfl (Y_runS (As := [rf S 0, .ref qd]) (rest := []) hX hE2 mk_X12_51 nkY_X12_isRow hE (cY_X12_isRow hE hF g854b qd 2 (vp_updL (vp_updL (fun _ => 0) (0 : Int32).toNatClampNeg 1) (1 : Int32).toNatClampNeg (Int32.toInt64 ((q3 13) - (q 13)))) (by decide) rfl (row2 _ _ _)) rfl Ecall.same ⟨rfl, rfl⟩ ⟨Nat.le_of_ble_eq_true rfl, Nat.le_of_ble_eq_true rfl⟩ rfl rfl (Nat.le_of_ble_eq_true rfl) dX12_holds_893 ⟨by show _ ≤ 20000; omega, by show _ ≤ 150000; omega⟩) (fun u893 hu893 => ?_)
      show Y X S K A (kc + 1 + 2) (kn + 2 + 12) [wsOf S u893.2.1, [(qd, .inl (cAr S 1, 2, .inr (.inl (vp_updL (vp_updL (fun _ => 0) (0 : Int32).toNatClampNeg 1) (1 : Int32).toNatClampNeg (Int32.toInt64 ((q3 13) - (q 13)))))))], stB S n p a3 q3, bnC S K n p b ra rb (T 4 2) (T 4 3) (T 4 4) (nI rr), rwC S n ra (T 0) (T 1), rwC S p rb (T 2) (T 3), hdC lb el mo (nI (esW v).length), arB K el cap (elF (esW v)), wasC S n p v, stB S n p a2 q, stD K ls1 lv1 (lnL l1)] 896 [(11, .int 0), (16, .int (nB bad1)), (15, .int (nI d1)), (14, .int (nI m9)), (13, .ref ls1), (10, .ref (a2 0)), (8, .int (xs i)), (7, .int (nI i)), (0, .ref (b 0)), (1, .ref sc), (2, rf S 0), (3, .ref (a3 0)), (4, .ref lb), (6, .int (nI n))] [.int 1]
      refine Y_if_ne (tgt := 901) hX dX12_holds_896 (by decide) (fun _ => ?_) (fun z => absurd z (show ¬ (1 : Int32) = 0 by decide))
      refine Y_goto (tgt := 969) hX dX12_holds_901 (by decide) ?_
      refine Y_sub (lv' := [(11, .int (nB false)), (10, .ref (a2 0)), (7, .int (nI i)), (0, .ref (b 0)), (1, .ref sc), (2, rf S 0), (3, .ref (a3 0)), (4, .ref lb), (6, .int (nI n))]) [0, 5, 7, 8, 9, 10, 11, 12, 13] rfl ?_
      refine Y_pick (bl' := [wsOf S u893.2.1, stB S n p a3 q3, bnC S K n p b ra rb (T 4 2) (T 4 3) (T 4 4) (nI rr), rwC S n ra (T 0) (T 1), rwC S p rb (T 2) (T 3), hdC lb el mo (nI (esW v).length), arB K el cap (elF (esW v)), wasC S n p v, stB S n p a2 q]) [0, 2, 3, 4, 5, 6, 7, 8, 9] (by decide) rfl ?_
      refine Y_wd (kc' := kc + 5) (kn' := kn + 60) (by omega) (by omega) ?_
      exact kk false u893.2.1 a3 q3 t854 _ (by rw [if_neg (by decide)]; rw [if_pos hdz] at hu893; exact hu893)
  · have hdz : ¬ d1 = 0 := fun z => h834 (by rw [z]; decide)
    refine Y_iconst (v := 1) hX dX12_holds_837 (by decide) ?_
    refine Y_goto (tgt := 842) hX dX12_holds_838 (by decide) ?_
    refine Y_istore (lv' := [(11, .int 1), (16, .int (nB bad1)), (15, .int (nI d1)), (14, .int (nI m9)), (13, .ref ls1), (10, .ref (a2 0)), (8, .int (xs i)), (7, .int (nI i)), (0, .ref (b 0)), (1, .ref sc), (2, rf S 0), (3, .ref (a3 0)), (4, .ref lb), (6, .int (nI n))]) hX dX12_holds_842 (by decide) rfl ?_
    refine Y_aload_n hX dX12_holds_844 10 rfl ?_
    refine Y_aload hX dX12_holds_845 4 rfl ?_
    obtain ⟨K847, h847⟩ := g
    refine Y_resEi hX (sub := [wsOf S w]) (rst := [stB S n p a3 q3, bnC S K n p b ra rb (T 4 2) (T 4 3) (T 4 4) (nI rr), rwC S n ra (T 0) (T 1), rwC S p rb (T 2) (T 3), hdC lb el mo (nI (esW v).length), arB K el cap (elF (esW v)), wasC S n p v, stB S n p a2 q, stD K ls1 lv1 (lnL l1)]) rfl (Y_runS (As := [rf S 0, .ref ls1]) (rest := []) hX hE2 mk_X12_150 nkY_X12_text (ES.stb S K (ls1, lv1, lnL l1)) (cY_X12_text (ES.stb S K (ls1, lv1, lnL l1)) (fun A s h => h.1) (ls1, lv1, lnL l1) (fun A s h => h.2) (by show (lnL l1).length ≤ 40; omega) (CL_ln l1 hok) h847) rfl (Ecall.str hF rfl 8 rfl) ⟨rfl, rfl⟩ ⟨Nat.le_of_ble_eq_true rfl, Nat.le_of_ble_eq_true rfl⟩ rfl rfl (Nat.le_of_ble_eq_true rfl) dX12_holds_847 ⟨by show _ ≤ 20000; omega, by show _ ≤ 150000; omega⟩) (fun u847 hu847 => ?_)
    show Y X S K A kc kn [wsOf S u847.2.1, stB S n p a3 q3, bnC S K n p b ra rb (T 4 2) (T 4 3) (T 4 4) (nI rr), rwC S n ra (T 0) (T 1), rwC S p rb (T 2) (T 3), hdC lb el mo (nI (esW v).length), arB K el cap (elF (esW v)), wasC S n p v, stB S n p a2 q, stD K ls1 lv1 (lnL l1)] 850 [(11, .int 1), (16, .int (nB bad1)), (15, .int (nI d1)), (14, .int (nI m9)), (13, .ref ls1), (10, .ref (a2 0)), (8, .int (xs i)), (7, .int (nI i)), (0, .ref (b 0)), (1, .ref sc), (2, rf S 0), (3, .ref (a3 0)), (4, .ref lb), (6, .int (nI n))] [.int 1]
    have g847 : CQ u847.2.1 T q n p u (fun k => (lnL l1).getD k 0) (lnL l1).length L := ⟨_, hu847⟩
    refine Y_if_eq (tgt := 899) hX dX12_holds_850 (by decide) (fun z => absurd z (show ¬ (1 : Int32) = 0 by decide)) (fun _ => ?_)
    refine Y_aload_n hX dX12_holds_853 10 rfl ?_
    obtain ⟨w854, t854, e854, g854⟩ := q_line g847 hne hl3 hok (by omega) (ln_one hne hok)
    rw [hrun] at e854 g854
    refine Y_callCi (w2 := w854) (v := nI d1) (As := []) (rest := []) hX hE2 hF mk_X12_250 nk_X10_watch (fun l => c_X10_watch l S e854) rfl tb_0 rfl ⟨rfl, rfl, Nat.le_of_ble_eq_true rfl, Nat.le_of_ble_eq_true rfl⟩ rfl rfl (Nat.le_of_ble_eq_true rfl) dX12_holds_854 ⟨by show _ ≤ 20000; omega, by show _ ≤ 150000; omega⟩ ?_
    show Y X S K A kc kn [wsOf S w854, stB S n p a3 q3, bnC S K n p b ra rb (T 4 2) (T 4 3) (T 4 4) (nI rr), rwC S n ra (T 0) (T 1), rwC S p rb (T 2) (T 3), hdC lb el mo (nI (esW v).length), arB K el cap (elF (esW v)), wasC S n p v, stB S n p a2 q, stD K ls1 lv1 (lnL l1)] 857 [(11, .int 1), (16, .int (nB bad1)), (15, .int (nI d1)), (14, .int (nI m9)), (13, .ref ls1), (10, .ref (a2 0)), (8, .int (xs i)), (7, .int (nI i)), (0, .ref (b 0)), (1, .ref sc), (2, rf S 0), (3, .ref (a3 0)), (4, .ref lb), (6, .int (nI n))] [.int (nI d1)]
    refine Y_iload hX dX12_holds_857 2 rfl ?_
    refine Y_icmp_ne (tgt := 899) hX dX12_holds_859 (by decide) (fun z => absurd rfl z) (fun _ => ?_)
    refine Y_aload_n hX dX12_holds_862 10 rfl ?_
    refine Y_iconst (v := 2) hX dX12_holds_863 (by decide) ?_
    refine Y_newa (at0 := .long) (t0 := 1) (n := 2) (a0 := (2, .inr (.inl (fun _ => 0)))) hX rfl ac_long rfl (fun _ => rfl) ⟨by decide, by decide, Nat.le_of_ble_eq_true rfl⟩ ⟨by show _ ≤ 20000; omega, by show _ ≤ 150000; omega⟩ dX12_holds_864 (fun qd => ?_)
    show Y X S K A (kc + 1) (kn + 2) [wsOf S w854, stB S n p a3 q3, bnC S K n p b ra rb (T 4 2) (T 4 3) (T 4 4) (nI rr), rwC S n ra (T 0) (T 1), rwC S p rb (T 2) (T 3), hdC lb el mo (nI (esW v).length), arB K el cap (elF (esW v)), wasC S n p v, stB S n p a2 q, stD K ls1 lv1 (lnL l1), [(qd, .inl (cAr S 1, 2, .inr (.inl (fun _ => 0))))]] 866 [(11, .int 1), (16, .int (nB bad1)), (15, .int (nI d1)), (14, .int (nI m9)), (13, .ref ls1), (10, .ref (a2 0)), (8, .int (xs i)), (7, .int (nI i)), (0, .ref (b 0)), (1, .ref sc), (2, rf S 0), (3, .ref (a3 0)), (4, .ref lb), (6, .int (nI n))] [.ref qd, rf S 0]
    refine Y_dup hX dX12_holds_866 rfl ?_
    refine Y_iconst (v := 0) hX dX12_holds_867 (by decide) ?_
    refine Y_iload hX dX12_holds_868 1 rfl ?_
    refine Y_if_eq (tgt := 877) hX dX12_holds_870 (by decide) (fun h870 => ?_) (fun h870 => ?_)
    · refine Y_lconst (v := 0) hX dX12_holds_877 rfl ?_
      refine Y_last 10 0 hX rfl rfl (inB_in (by decide)) dX12_holds_878 ?_
      show Y X S K A (kc + 1) (kn + 2) [wsOf S w854, stB S n p a3 q3, bnC S K n p b ra rb (T 4 2) (T 4 3) (T 4 4) (nI rr), rwC S n ra (T 0) (T 1), rwC S p rb (T 2) (T 3), hdC lb el mo (nI (esW v).length), arB K el cap (elF (esW v)), wasC S n p v, stB S n p a2 q, stD K ls1 lv1 (lnL l1), [(qd, .inl (cAr S 1, 2, .inr (.inl (vp_updL (fun _ => 0) (0 : Int32).toNatClampNeg 0))))]] 879 [(11, .int 1), (16, .int (nB bad1)), (15, .int (nI d1)), (14, .int (nI m9)), (13, .ref ls1), (10, .ref (a2 0)), (8, .int (xs i)), (7, .int (nI i)), (0, .ref (b 0)), (1, .ref sc), (2, rf S 0), (3, .ref (a3 0)), (4, .ref lb), (6, .int (nI n))] [.ref qd, rf S 0]
      refine Y_dup hX dX12_holds_879 rfl ?_
      refine Y_iconst (v := 1) hX dX12_holds_880 (by decide) ?_
      refine Y_aload_n hX dX12_holds_881 11 rfl ?_
      refine Y_get 1 0 hX fk_X12_102 rfl rfl rfl dX12_holds_882 ?_
      refine Y_aload hX dX12_holds_885 5 rfl ?_
      refine Y_get 8 0 hX fk_X12_102 rfl rfl rfl dX12_holds_887 ?_
      refine Y_isub hX dX12_holds_890 ?_
      refine Y_i2l hX dX12_holds_891 ?_
      refine Y_last 10 0 hX rfl rfl (inB_in (by decide)) dX12_holds_892 ?_
      show Y X S K A (kc + 1) (kn + 2) [wsOf S w854, stB S n p a3 q3, bnC S K n p b ra rb (T 4 2) (T 4 3) (T 4 4) (nI rr), rwC S n ra (T 0) (T 1), rwC S p rb (T 2) (T 3), hdC lb el mo (nI (esW v).length), arB K el cap (elF (esW v)), wasC S n p v, stB S n p a2 q, stD K ls1 lv1 (lnL l1), [(qd, .inl (cAr S 1, 2, .inr (.inl (vp_updL (vp_updL (fun _ => 0) (0 : Int32).toNatClampNeg 0) (1 : Int32).toNatClampNeg (Int32.toInt64 ((q3 13) - (q 13)))))))]] 893 [(11, .int 1), (16, .int (nB bad1)), (15, .int (nI d1)), (14, .int (nI m9)), (13, .ref ls1), (10, .ref (a2 0)), (8, .int (xs i)), (7, .int (nI i)), (0, .ref (b 0)), (1, .ref sc), (2, rf S 0), (3, .ref (a3 0)), (4, .ref lb), (6, .int (nI n))] [.ref qd, rf S 0]
      have hL : i64 (if bad1 = true then 1 else 0) = 0 := by rw [if_neg (by rw [nB_f h870]; decide)]; decide
      have g854b := g854
      rw [hL] at g854b
      refine Y_pick [0, 10, 1, 2, 3, 4, 5, 6, 7, 8, 9] (by decide) rfl ?_
      show Y X S K A (kc + 1) (kn + 2) [wsOf S w854, [(qd, .inl (cAr S 1, 2, .inr (.inl (vp_updL (vp_updL (fun _ => 0) (0 : Int32).toNatClampNeg 0) (1 : Int32).toNatClampNeg (Int32.toInt64 ((q3 13) - (q 13)))))))], stB S n p a3 q3, bnC S K n p b ra rb (T 4 2) (T 4 3) (T 4 4) (nI rr), rwC S n ra (T 0) (T 1), rwC S p rb (T 2) (T 3), hdC lb el mo (nI (esW v).length), arB K el cap (elF (esW v)), wasC S n p v, stB S n p a2 q, stD K ls1 lv1 (lnL l1)] 893 [(11, .int 1), (16, .int (nB bad1)), (15, .int (nI d1)), (14, .int (nI m9)), (13, .ref ls1), (10, .ref (a2 0)), (8, .int (xs i)), (7, .int (nI i)), (0, .ref (b 0)), (1, .ref sc), (2, rf S 0), (3, .ref (a3 0)), (4, .ref lb), (6, .int (nI n))] [.ref qd, rf S 0]
      refine Y_resEi hX (sub := [wsOf S w854, [(qd, .inl (cAr S 1, 2, .inr (.inl (vp_updL (vp_updL (fun _ => 0) (0 : Int32).toNatClampNeg 0) (1 : Int32).toNatClampNeg (Int32.toInt64 ((q3 13) - (q 13)))))))]]) (rst := [stB S n p a3 q3, bnC S K n p b ra rb (T 4 2) (T 4 3) (T 4 4) (nI rr), rwC S n ra (T 0) (T 1), rwC S p rb (T 2) (T 3), hdC lb el mo (nI (esW v).length), arB K el cap (elF (esW v)), wasC S n p v, stB S n p a2 q, stD K ls1 lv1 (lnL l1)]) rfl (Y_runS (As := [rf S 0, .ref qd]) (rest := []) hX hE2 mk_X12_51 nkY_X12_isRow hE (cY_X12_isRow hE hF g854b qd 2 (vp_updL (vp_updL (fun _ => 0) (0 : Int32).toNatClampNeg 0) (1 : Int32).toNatClampNeg (Int32.toInt64 ((q3 13) - (q 13)))) (by decide) rfl (row2 _ _ _)) rfl Ecall.same ⟨rfl, rfl⟩ ⟨Nat.le_of_ble_eq_true rfl, Nat.le_of_ble_eq_true rfl⟩ rfl rfl (Nat.le_of_ble_eq_true rfl) dX12_holds_893 ⟨by show _ ≤ 20000; omega, by show _ ≤ 150000; omega⟩) (fun u893 hu893 => ?_)
      show Y X S K A (kc + 1 + 2) (kn + 2 + 12) [wsOf S u893.2.1, [(qd, .inl (cAr S 1, 2, .inr (.inl (vp_updL (vp_updL (fun _ => 0) (0 : Int32).toNatClampNeg 0) (1 : Int32).toNatClampNeg (Int32.toInt64 ((q3 13) - (q 13)))))))], stB S n p a3 q3, bnC S K n p b ra rb (T 4 2) (T 4 3) (T 4 4) (nI rr), rwC S n ra (T 0) (T 1), rwC S p rb (T 2) (T 3), hdC lb el mo (nI (esW v).length), arB K el cap (elF (esW v)), wasC S n p v, stB S n p a2 q, stD K ls1 lv1 (lnL l1)] 896 [(11, .int 1), (16, .int (nB bad1)), (15, .int (nI d1)), (14, .int (nI m9)), (13, .ref ls1), (10, .ref (a2 0)), (8, .int (xs i)), (7, .int (nI i)), (0, .ref (b 0)), (1, .ref sc), (2, rf S 0), (3, .ref (a3 0)), (4, .ref lb), (6, .int (nI n))] [.int 1]
      refine Y_if_ne (tgt := 901) hX dX12_holds_896 (by decide) (fun _ => ?_) (fun z => absurd z (show ¬ (1 : Int32) = 0 by decide))
      refine Y_goto (tgt := 969) hX dX12_holds_901 (by decide) ?_
      refine Y_sub (lv' := [(11, .int (nB true)), (10, .ref (a2 0)), (7, .int (nI i)), (0, .ref (b 0)), (1, .ref sc), (2, rf S 0), (3, .ref (a3 0)), (4, .ref lb), (6, .int (nI n))]) [0, 5, 7, 8, 9, 10, 11, 12, 13] rfl ?_
      refine Y_pick (bl' := [wsOf S u893.2.1, stB S n p a3 q3, bnC S K n p b ra rb (T 4 2) (T 4 3) (T 4 4) (nI rr), rwC S n ra (T 0) (T 1), rwC S p rb (T 2) (T 3), hdC lb el mo (nI (esW v).length), arB K el cap (elF (esW v)), wasC S n p v, stB S n p a2 q]) [0, 2, 3, 4, 5, 6, 7, 8, 9] (by decide) rfl ?_
      refine Y_wd (kc' := kc + 5) (kn' := kn + 60) (by omega) (by omega) ?_
      exact kk true u893.2.1 a3 q3 t854 _ (by rw [if_pos rfl]; rw [if_neg hdz] at hu893; exact hu893)
    · refine Y_lconst (v := 1) hX dX12_holds_873 rfl ?_
      refine Y_goto (tgt := 878) hX dX12_holds_874 (by decide) ?_
      refine Y_last 10 0 hX rfl rfl (inB_in (by decide)) dX12_holds_878 ?_
      show Y X S K A (kc + 1) (kn + 2) [wsOf S w854, stB S n p a3 q3, bnC S K n p b ra rb (T 4 2) (T 4 3) (T 4 4) (nI rr), rwC S n ra (T 0) (T 1), rwC S p rb (T 2) (T 3), hdC lb el mo (nI (esW v).length), arB K el cap (elF (esW v)), wasC S n p v, stB S n p a2 q, stD K ls1 lv1 (lnL l1), [(qd, .inl (cAr S 1, 2, .inr (.inl (vp_updL (fun _ => 0) (0 : Int32).toNatClampNeg 1))))]] 879 [(11, .int 1), (16, .int (nB bad1)), (15, .int (nI d1)), (14, .int (nI m9)), (13, .ref ls1), (10, .ref (a2 0)), (8, .int (xs i)), (7, .int (nI i)), (0, .ref (b 0)), (1, .ref sc), (2, rf S 0), (3, .ref (a3 0)), (4, .ref lb), (6, .int (nI n))] [.ref qd, rf S 0]
      refine Y_dup hX dX12_holds_879 rfl ?_
      refine Y_iconst (v := 1) hX dX12_holds_880 (by decide) ?_
      refine Y_aload_n hX dX12_holds_881 11 rfl ?_
      refine Y_get 1 0 hX fk_X12_102 rfl rfl rfl dX12_holds_882 ?_
      refine Y_aload hX dX12_holds_885 5 rfl ?_
      refine Y_get 8 0 hX fk_X12_102 rfl rfl rfl dX12_holds_887 ?_
      refine Y_isub hX dX12_holds_890 ?_
      refine Y_i2l hX dX12_holds_891 ?_
      refine Y_last 10 0 hX rfl rfl (inB_in (by decide)) dX12_holds_892 ?_
      show Y X S K A (kc + 1) (kn + 2) [wsOf S w854, stB S n p a3 q3, bnC S K n p b ra rb (T 4 2) (T 4 3) (T 4 4) (nI rr), rwC S n ra (T 0) (T 1), rwC S p rb (T 2) (T 3), hdC lb el mo (nI (esW v).length), arB K el cap (elF (esW v)), wasC S n p v, stB S n p a2 q, stD K ls1 lv1 (lnL l1), [(qd, .inl (cAr S 1, 2, .inr (.inl (vp_updL (vp_updL (fun _ => 0) (0 : Int32).toNatClampNeg 1) (1 : Int32).toNatClampNeg (Int32.toInt64 ((q3 13) - (q 13)))))))]] 893 [(11, .int 1), (16, .int (nB bad1)), (15, .int (nI d1)), (14, .int (nI m9)), (13, .ref ls1), (10, .ref (a2 0)), (8, .int (xs i)), (7, .int (nI i)), (0, .ref (b 0)), (1, .ref sc), (2, rf S 0), (3, .ref (a3 0)), (4, .ref lb), (6, .int (nI n))] [.ref qd, rf S 0]
      have hL : i64 (if bad1 = true then 1 else 0) = 1 := by rw [if_pos (nB_t h870)]; decide
      have g854b := g854
      rw [hL] at g854b
      refine Y_pick [0, 10, 1, 2, 3, 4, 5, 6, 7, 8, 9] (by decide) rfl ?_
      show Y X S K A (kc + 1) (kn + 2) [wsOf S w854, [(qd, .inl (cAr S 1, 2, .inr (.inl (vp_updL (vp_updL (fun _ => 0) (0 : Int32).toNatClampNeg 1) (1 : Int32).toNatClampNeg (Int32.toInt64 ((q3 13) - (q 13)))))))], stB S n p a3 q3, bnC S K n p b ra rb (T 4 2) (T 4 3) (T 4 4) (nI rr), rwC S n ra (T 0) (T 1), rwC S p rb (T 2) (T 3), hdC lb el mo (nI (esW v).length), arB K el cap (elF (esW v)), wasC S n p v, stB S n p a2 q, stD K ls1 lv1 (lnL l1)] 893 [(11, .int 1), (16, .int (nB bad1)), (15, .int (nI d1)), (14, .int (nI m9)), (13, .ref ls1), (10, .ref (a2 0)), (8, .int (xs i)), (7, .int (nI i)), (0, .ref (b 0)), (1, .ref sc), (2, rf S 0), (3, .ref (a3 0)), (4, .ref lb), (6, .int (nI n))] [.ref qd, rf S 0]
      refine Y_resEi hX (sub := [wsOf S w854, [(qd, .inl (cAr S 1, 2, .inr (.inl (vp_updL (vp_updL (fun _ => 0) (0 : Int32).toNatClampNeg 1) (1 : Int32).toNatClampNeg (Int32.toInt64 ((q3 13) - (q 13)))))))]]) (rst := [stB S n p a3 q3, bnC S K n p b ra rb (T 4 2) (T 4 3) (T 4 4) (nI rr), rwC S n ra (T 0) (T 1), rwC S p rb (T 2) (T 3), hdC lb el mo (nI (esW v).length), arB K el cap (elF (esW v)), wasC S n p v, stB S n p a2 q, stD K ls1 lv1 (lnL l1)]) rfl (Y_runS (As := [rf S 0, .ref qd]) (rest := []) hX hE2 mk_X12_51 nkY_X12_isRow hE (cY_X12_isRow hE hF g854b qd 2 (vp_updL (vp_updL (fun _ => 0) (0 : Int32).toNatClampNeg 1) (1 : Int32).toNatClampNeg (Int32.toInt64 ((q3 13) - (q 13)))) (by decide) rfl (row2 _ _ _)) rfl Ecall.same ⟨rfl, rfl⟩ ⟨Nat.le_of_ble_eq_true rfl, Nat.le_of_ble_eq_true rfl⟩ rfl rfl (Nat.le_of_ble_eq_true rfl) dX12_holds_893 ⟨by show _ ≤ 20000; omega, by show _ ≤ 150000; omega⟩) (fun u893 hu893 => ?_)
      show Y X S K A (kc + 1 + 2) (kn + 2 + 12) [wsOf S u893.2.1, [(qd, .inl (cAr S 1, 2, .inr (.inl (vp_updL (vp_updL (fun _ => 0) (0 : Int32).toNatClampNeg 1) (1 : Int32).toNatClampNeg (Int32.toInt64 ((q3 13) - (q 13)))))))], stB S n p a3 q3, bnC S K n p b ra rb (T 4 2) (T 4 3) (T 4 4) (nI rr), rwC S n ra (T 0) (T 1), rwC S p rb (T 2) (T 3), hdC lb el mo (nI (esW v).length), arB K el cap (elF (esW v)), wasC S n p v, stB S n p a2 q, stD K ls1 lv1 (lnL l1)] 896 [(11, .int 1), (16, .int (nB bad1)), (15, .int (nI d1)), (14, .int (nI m9)), (13, .ref ls1), (10, .ref (a2 0)), (8, .int (xs i)), (7, .int (nI i)), (0, .ref (b 0)), (1, .ref sc), (2, rf S 0), (3, .ref (a3 0)), (4, .ref lb), (6, .int (nI n))] [.int 1]
      refine Y_if_ne (tgt := 901) hX dX12_holds_896 (by decide) (fun _ => ?_) (fun z => absurd z (show ¬ (1 : Int32) = 0 by decide))
      refine Y_goto (tgt := 969) hX dX12_holds_901 (by decide) ?_
      refine Y_sub (lv' := [(11, .int (nB true)), (10, .ref (a2 0)), (7, .int (nI i)), (0, .ref (b 0)), (1, .ref sc), (2, rf S 0), (3, .ref (a3 0)), (4, .ref lb), (6, .int (nI n))]) [0, 5, 7, 8, 9, 10, 11, 12, 13] rfl ?_
      refine Y_pick (bl' := [wsOf S u893.2.1, stB S n p a3 q3, bnC S K n p b ra rb (T 4 2) (T 4 3) (T 4 4) (nI rr), rwC S n ra (T 0) (T 1), rwC S p rb (T 2) (T 3), hdC lb el mo (nI (esW v).length), arB K el cap (elF (esW v)), wasC S n p v, stB S n p a2 q]) [0, 2, 3, 4, 5, 6, 7, 8, 9] (by decide) rfl ?_
      refine Y_wd (kc' := kc + 5) (kn' := kn + 60) (by omega) (by omega) ?_
      exact kk true u893.2.1 a3 q3 t854 _ (by rw [if_pos rfl]; rw [if_neg hdz] at hu893; exact hu893)
theorem fl_nil (bl : Bk) : bl.flatten = (bl ++ [[]]).flatten := by simp
set_option maxHeartbeats 8000000 in
theorem ho_w {X : Cx} {S : Sx} {K : Kx} {A : Nat → Prop} {E : Ex} {sc N mi : Nat} {xs : Nat → Int32} (hE : Stb E) (hF : ∀ (A : Nat → Prop) (s : State), E A s → KF S K A s s.heap) (hx : ∀ (A : Nat → Prop) (s : State), E A s → EX S K sc N xs A s) (hV : ∀ (A : Nat → Prop) (s : State), E A s → PVs s) (hM : ∀ (A : Nat → Prop) (s : State), E A s → va_Mi oaN mi s ∧ va_Dc s) (hN : N < 2 ^ 31) (hX : Yok X S K A cX12_holds RX12 23 rmY_X12_holds) (hE2 : YE X A E)  {n p rr : Nat} {b ra rb : Nat → Nat} {T : Tw} (hr : RuOk T (nI rr)) {lb : Nat} {kc kn : Nat} (hkc : kc ≤ 14000) (hkn : kn ≤ 120000)  {i ac r9 : Nat} (hi2 : i < 63) {a2 : Nat → Nat} {w : Wd} {a : Nat → Nat} {q : Bl} {v : Wz} {u : Us} {t : Nat → Int32} {L : List Int64} {el cap : Nat} {mo : Int32} (g : CQ w T q n p u t 0 L)  (kk : ∀ (kf : Bool) (w1 : Wd) (a1 : Nat → Nat) (q1 : Bl) (t1 : Nat → Int32) (L1 : List Int64), CQ w1 T q1 n p (if kf = true then psh q u else u) t1 0 L1 → Y X S K A (kc + 230) (kn + 1900) [wsOf S w1, stB S n p a1 q1, bnC S K n p b ra rb (T 4 2) (T 4 3) (T 4 4) (nI rr), rwC S n ra (T 0) (T 1), rwC S p rb (T 2) (T 3), hdC lb el mo (nI (esW v).length), arB K el cap (elF (esW v)), wasC S n p v, stB S n p a2 q] 969 [(11, .int (nB kf)), (10, .ref (a2 0)), (7, .int (nI i)), (0, .ref (b 0)), (1, .ref sc), (2, rf S 0), (3, .ref (a1 0)), (4, .ref lb), (6, .int (nI n))] []) : Y X S K A (kc + 4) (kn + 33) [wsOf S w, stB S n p a q, bnC S K n p b ra rb (T 4 2) (T 4 3) (T 4 4) (nI rr), rwC S n ra (T 0) (T 1), rwC S p rb (T 2) (T 3), hdC lb el mo (nI (esW v).length), arB K el cap (elF (esW v)), wasC S n p v, stB S n p a2 q] 388 [(12, .int (nI r9)), (11, .int 0), (10, .ref (a2 0)), (9, .int (nI ac)), (8, .int (xs i)), (7, .int (nI i)), (0, .ref (b 0)), (1, .ref sc), (2, rf S 0), (3, .ref (a 0)), (4, .ref lb), (6, .int (nI n))] [] := by
  obtain ⟨N9, K9, ok, hq⟩ := q_ok g
  have hn := ok.1
  have hp := ok.2.1
  obtain ⟨m9, hm1, hm3, em9⟩ := acts_of (and1 (ishrI (xs i) 4)) (and1 (ishrI (xs i) 5))
  refine Y_ldcS (k := 1) (tx := "") hX hE2 (fun s h => (hF A s h).2.1.2.1) dX12_holds_388 ?_
  refine Y_astore (lv' := [(13, .ref (adK S 1)), (12, .int (nI r9)), (11, .int 0), (10, .ref (a2 0)), (9, .int (nI ac)), (8, .int (xs i)), (7, .int (nI i)), (0, .ref (b 0)), (1, .ref sc), (2, rf S 0), (3, .ref (a 0)), (4, .ref lb), (6, .int (nI n))]) hX dX12_holds_390 (by decide) rfl ?_
  refine Y_iconst (v := 1) hX dX12_holds_392 (by decide) ?_
  refine Y_iload hX dX12_holds_393 5 rfl ?_
  refine Y_iconst (v := 4) hX dX12_holds_395 (by decide) ?_
  refine Y_ishr hX dX12_holds_396 ?_
  refine Y_iconst (v := 1) hX dX12_holds_397 (by decide) ?_
  refine Y_iand hX dX12_holds_398 ?_
  refine Y_iadd hX dX12_holds_399 ?_
  refine Y_iload hX dX12_holds_400 5 rfl ?_
  refine Y_iconst (v := 5) hX dX12_holds_402 (by decide) ?_
  refine Y_ishr hX dX12_holds_403 ?_
  refine Y_iconst (v := 1) hX dX12_holds_404 (by decide) ?_
  refine Y_iand hX dX12_holds_405 ?_
  refine Y_iadd hX dX12_holds_406 ?_
  refine Y_eqi (x' := nI m9) (em9) ?_
  refine Y_istore (lv' := [(14, .int (nI m9)), (13, .ref (adK S 1)), (12, .int (nI r9)), (11, .int 0), (10, .ref (a2 0)), (9, .int (nI ac)), (8, .int (xs i)), (7, .int (nI i)), (0, .ref (b 0)), (1, .ref sc), (2, rf S 0), (3, .ref (a 0)), (4, .ref lb), (6, .int (nI n))]) hX dX12_holds_407 (by decide) rfl ?_
  refine Y_iconst (v := 0) hX dX12_holds_409 (by decide) ?_
  refine Y_istore (lv' := [(15, .int 0), (14, .int (nI m9)), (13, .ref (adK S 1)), (12, .int (nI r9)), (11, .int 0), (10, .ref (a2 0)), (9, .int (nI ac)), (8, .int (xs i)), (7, .int (nI i)), (0, .ref (b 0)), (1, .ref sc), (2, rf S 0), (3, .ref (a 0)), (4, .ref lb), (6, .int (nI n))]) hX dX12_holds_410 (by decide) rfl ?_
  refine Y_iconst (v := 0) hX dX12_holds_412 (by decide) ?_
  refine Y_istore (lv' := [(16, .int 0), (15, .int 0), (14, .int (nI m9)), (13, .ref (adK S 1)), (12, .int (nI r9)), (11, .int 0), (10, .ref (a2 0)), (9, .int (nI ac)), (8, .int (xs i)), (7, .int (nI i)), (0, .ref (b 0)), (1, .ref sc), (2, rf S 0), (3, .ref (a 0)), (4, .ref lb), (6, .int (nI n))]) hX dX12_holds_413 (by decide) rfl ?_
  refine Y_iconst (v := 0) hX dX12_holds_415 (by decide) ?_
  refine Y_istore (lv' := [(17, .int 0), (16, .int 0), (15, .int 0), (14, .int (nI m9)), (13, .ref (adK S 1)), (12, .int (nI r9)), (11, .int 0), (10, .ref (a2 0)), (9, .int (nI ac)), (8, .int (xs i)), (7, .int (nI i)), (0, .ref (b 0)), (1, .ref sc), (2, rf S 0), (3, .ref (a 0)), (4, .ref lb), (6, .int (nI n))]) hX dX12_holds_416 (by decide) rfl ?_
  refine Y_sub (lv' := [(17, .int (nI 0)), (16, .int (nB false)), (15, .int (nI 0)), (14, .int (nI m9)), (13, .ref (adK S 1)), (10, .ref (a2 0)), (8, .int (xs i)), (7, .int (nI i)), (0, .ref (b 0)), (1, .ref sc), (2, rf S 0), (3, .ref (a 0)), (4, .ref lb), (6, .int (nI n))]) [0, 1, 2, 3, 4, 7, 9, 10, 11, 12, 13, 14, 15, 16] rfl ?_
  refine Y_fl (bl' := [wsOf S w, stB S n p a q, bnC S K n p b ra rb (T 4 2) (T 4 3) (T 4 4) (nI rr), rwC S n ra (T 0) (T 1), rwC S p rb (T 2) (T 3), hdC lb el mo (nI (esW v).length), arB K el cap (elF (esW v)), wasC S n p v, stB S n p a2 q, lnC K (adK S 1) (adV S 1) (lnL [])]) (fl_nil [wsOf S w, stB S n p a q, bnC S K n p b ra rb (T 4 2) (T 4 3) (T 4 4) (nI rr), rwC S n ra (T 0) (T 1), rwC S p rb (T 2) (T 3), hdC lb el mo (nI (esW v).length), arB K el cap (elF (esW v)), wasC S n p v, stB S n p a2 q]) ?_
  refine hw_l hE hF hx hV hM hN hX hE2 hr (kc := kc + 4) (kn := kn + 33) (by omega) (by omega) hi2 hm1 hm3 (q := q) ok (fun l1 bad1 d1 a3 q3 ls1 lv1 hl hok hd hrun => ?_) m9 0 (by omega) [] false 0 a q (adK S 1) (adV S 1) rfl (fun x hx => by cases hx) (Nat.le_refl _) (fun _ => ⟨rfl, rfl⟩) ⟨_, hq⟩ rfl
  exact hw_4 hE hF hx hV hM hN hX hE2 hr (kc := kc + 4 + 216) (kn := kn + 33 + 1776) (by omega) (by omega) hi2 hm1 hm3 hl hok hd hrun g (fun kf w1 a1 q1 t1 L1 g1 => Y_wd (by omega) (by omega) (kk kf w1 a1 q1 t1 L1 g1))
