-- ===== the law's own method =====
set_option maxHeartbeats 4000000 in
theorem ho_d {X : Cx} {S : Sx} {K : Kx} {A : Nat → Prop} {E : Ex} {sc N mi : Nat} {xs : Nat → Int32} (hE : Stb E) (hF : ∀ (A : Nat → Prop) (s : State), E A s → KF S K A s s.heap) (hx : ∀ (A : Nat → Prop) (s : State), E A s → EX S K sc N xs A s) (hV : ∀ (A : Nat → Prop) (s : State), E A s → PVs s) (hM : ∀ (A : Nat → Prop) (s : State), E A s → va_Mi oaN mi s ∧ va_Dc s) (hN : N < 2 ^ 31) (hX : Yok X S K A cX12_holds RX12 23 rmY_X12_holds) (hE2 : YE X A E)  {n p rr : Nat} {b ra rb : Nat → Nat} {T : Tw} (hr : RuOk T (nI rr)) {lb : Nat} {kc kn : Nat} (hkc : kc ≤ 14000) (hkn : kn ≤ 120000)  {i ac r9 : Nat} (hi2 : i < 63) {a2 : Nat → Nat} {w : Wd} {a : Nat → Nat} {q : Bl} {v : Wz} {u : Us} {t : Nat → Int32} {L : List Int64} {el cap : Nat} {mo : Int32} (g : CQ w T q n p u t 0 L)  (hw : RelW v u) (hv : v.length ≤ 15) (hls : LsI K cap el (esW v))  (hR : YHi X S K A cX12_holds .boolean 1 (fun _ => []) 20000 150000) (kk : ∀ (w2 : Wd) (a1 : Nat → Nat) (q1 : Bl) (v2 : Wz) (u2 : Us) (t2 : Nat → Int32) (L2 : List Int64) (el2 cap2 : Nat) (mo2 : Int32), RelW v2 u2 → v2.length ≤ 15 → LsI K cap2 el2 (esW v2) → CQ w2 T q1 n p u2 t2 0 L2 → Y X S K A (kc + 300) (kn + 2500) [wsOf S w2, stB S n p a1 q1, bnC S K n p b ra rb (T 4 2) (T 4 3) (T 4 4) (nI rr), rwC S n ra (T 0) (T 1), rwC S p rb (T 2) (T 3), hdC lb el2 mo2 (nI (esW v2).length), arB K el2 cap2 (elF (esW v2)), wasC S n p v2] 76 [(7, .int (nI (i + 1))), (0, .ref (b 0)), (1, .ref sc), (2, rf S 0), (3, .ref (a1 0)), (4, .ref lb), (6, .int (nI n))] []) : Y X S K A (kc + 4) (kn + 33) [wsOf S w, stB S n p a q, bnC S K n p b ra rb (T 4 2) (T 4 3) (T 4 4) (nI rr), rwC S n ra (T 0) (T 1), rwC S p rb (T 2) (T 3), hdC lb el mo (nI (esW v).length), arB K el cap (elF (esW v)), wasC S n p v, stB S n p a2 q] 125 [(12, .int (nI r9)), (11, .int 0), (10, .ref (a2 0)), (9, .int (nI ac)), (8, .int (xs i)), (7, .int (nI i)), (0, .ref (b 0)), (1, .ref sc), (2, rf S 0), (3, .ref (a 0)), (4, .ref lb), (6, .int (nI n))] [] := by
  have kT : ∀ (kf : Bool) (w1 : Wd) (a1 : Nat → Nat) (q1 : Bl) (t1 : Nat → Int32) (L1 : List Int64), CQ w1 T q1 n p (if kf = true then psh q u else u) t1 0 L1 → Y X S K A (kc + 230) (kn + 1900) [wsOf S w1, stB S n p a1 q1, bnC S K n p b ra rb (T 4 2) (T 4 3) (T 4 4) (nI rr), rwC S n ra (T 0) (T 1), rwC S p rb (T 2) (T 3), hdC lb el mo (nI (esW v).length), arB K el cap (elF (esW v)), wasC S n p v, stB S n p a2 q] 969 [(11, .int (nB kf)), (10, .ref (a2 0)), (7, .int (nI i)), (0, .ref (b 0)), (1, .ref sc), (2, rf S 0), (3, .ref (a1 0)), (4, .ref lb), (6, .int (nI n))] [] := fun kf w1 a1 q1 t1 L1 g1 => ho_z hE hF hx hV hM hN hX hE2 hr (kc := kc + 230) (kn := kn + 1900) (by omega) (by omega) hw hv hls g1 (fun w2 v2 u2 t2 L2 el2 cap2 mo2 h1 h2 h3 g2 => Y_wd (by omega) (by omega) (kk w2 a1 q1 v2 u2 t2 L2 el2 cap2 mo2 h1 h2 h3 g2))
  have kU : ∀ (w1 : Wd) (a1 : Nat → Nat) (q1 : Bl) (v1 : Wz) (u1 : Us) (mo1 : Int32), RelW v1 u1 → v1.length ≤ 15 → LsI K cap el (esW v1) → CQ w1 T q1 n p u1 t 0 L → Y X S K A (kc + 230) (kn + 1900) [wsOf S w1, stB S n p a1 q1, bnC S K n p b ra rb (T 4 2) (T 4 3) (T 4 4) (nI rr), rwC S n ra (T 0) (T 1), rwC S p rb (T 2) (T 3), hdC lb el mo1 (nI (esW v1).length), arB K el cap (elF (esW v1)), wasC S n p v1, stB S n p a2 q] 969 [(11, .int (nB false)), (10, .ref (a2 0)), (7, .int (nI i)), (0, .ref (b 0)), (1, .ref sc), (2, rf S 0), (3, .ref (a1 0)), (4, .ref lb), (6, .int (nI n))] [] := fun w1 a1 q1 v1 u1 mo1 k1 k2 k3 g1 => ho_z hE hF hx hV hM hN hX hE2 hr (kc := kc + 230) (kn := kn + 1900) (by omega) (by omega) (kf := false) (q0 := q) k1 k2 k3 (by rw [if_neg (by decide)]; exact g1) (fun w2 v2 u2 t2 L2 el2 cap2 mo2 h1 h2 h3 g2 => Y_wd (by omega) (by omega) (kk w2 a1 q1 v2 u2 t2 L2 el2 cap2 mo2 h1 h2 h3 g2))
  refine Y_iload hX dX12_holds_125 3 rfl ?_
  refine Y_iconst (v := 4) hX dX12_holds_127 (by decide) ?_
  refine Y_icmp_ge (tgt := 168) hX dX12_holds_128 (by decide) (fun c1 => ?_) (fun c1 => ?_)
  · refine Y_iload hX dX12_holds_168 3 rfl ?_
    refine Y_bipush (v := 6) hX dX12_holds_170 (by decide) ?_
    refine Y_icmp_ge (tgt := 212) hX dX12_holds_172 (by decide) (fun c2 => ?_) (fun c2 => ?_)
    · refine Y_iload hX dX12_holds_212 3 rfl ?_
      refine Y_bipush (v := 6) hX dX12_holds_214 (by decide) ?_
      refine Y_icmp_ne (tgt := 295) hX dX12_holds_216 (by decide) (fun c3 => ?_) (fun c3 => ?_)
      · refine Y_iload hX dX12_holds_295 3 rfl ?_
        refine Y_bipush (v := 10) hX dX12_holds_297 (by decide) ?_
        refine Y_icmp_ge (tgt := 381) hX dX12_holds_299 (by decide) (fun c4 => ?_) (fun c4 => ?_)
        · refine Y_iload hX dX12_holds_381 3 rfl ?_
          refine Y_bipush (v := 14) hX dX12_holds_383 (by decide) ?_
          refine Y_icmp_ge (tgt := 904) hX dX12_holds_385 (by decide) (fun c5 => ?_) (fun c5 => ?_)
          · exact ho_u hE hF hx hV hM hN hX hE2 hr (by omega) (by omega) hi2 g hw hv hls hR kU
          · exact ho_w hE hF hx hV hM hN hX hE2 hr (by omega) (by omega) hi2 g kT
        · exact ho_g hE hF hx hV hM hN hX hE2 hr (by omega) (by omega) hi2 g kT
      · exact ho_m hE hF hx hV hM hN hX hE2 hr (by omega) (by omega) hi2 g kT
    · exact ho_l hE hF hx hV hM hN hX hE2 hr (by omega) (by omega) hi2 g kT
  · exact ho_t hE hF hx hV hM hN hX hE2 hr (by omega) (by omega) hi2 g kT
set_option maxHeartbeats 4000000 in
theorem ho_k {X : Cx} {S : Sx} {K : Kx} {A : Nat → Prop} {E : Ex} {sc N mi : Nat} {xs : Nat → Int32} (hE : Stb E) (hF : ∀ (A : Nat → Prop) (s : State), E A s → KF S K A s s.heap) (hx : ∀ (A : Nat → Prop) (s : State), E A s → EX S K sc N xs A s) (hV : ∀ (A : Nat → Prop) (s : State), E A s → PVs s) (hM : ∀ (A : Nat → Prop) (s : State), E A s → va_Mi oaN mi s ∧ va_Dc s) (hN : N < 2 ^ 31) (hX : Yok X S K A cX12_holds RX12 23 rmY_X12_holds) (hE2 : YE X A E)  {n p rr : Nat} {b ra rb : Nat → Nat} {T : Tw} (hr : RuOk T (nI rr)) {lb : Nat}  (hR : YHi X S K A cX12_holds .boolean 1 (fun _ => []) 20000 150000) (kk : ∀ (w : Wd) (a : Nat → Nat) (q : Bl) (v : Wz) (u : Us) (t : Nat → Int32) (L : List Int64) (el cap : Nat) (mo : Int32), CQ w T q n p u t 0 L → Y X S K A 14300 118500 [wsOf S w, stB S n p a q, bnC S K n p b ra rb (T 4 2) (T 4 3) (T 4 4) (nI rr), rwC S n ra (T 0) (T 1), rwC S p rb (T 2) (T 3), hdC lb el mo (nI (esW v).length), arB K el cap (elF (esW v)), wasC S n p v] 1030 [(0, .ref (b 0)), (1, .ref sc), (2, rf S 0), (3, .ref (a 0)), (4, .ref lb), (6, .int (nI n))] []) : ∀ (j m : Nat), m + j = 44 → ∀ (w : Wd) (a : Nat → Nat) (q : Bl) (v : Wz) (u : Us) (t : Nat → Int32) (L : List Int64) (el cap : Nat) (mo : Int32), RelW v u → v.length ≤ 15 → LsI K cap el (esW v) → CQ w T q n p u t 0 L → Y X S K A (1000 + 300 * m) (8000 + 2500 * m) [wsOf S w, stB S n p a q, bnC S K n p b ra rb (T 4 2) (T 4 3) (T 4 4) (nI rr), rwC S n ra (T 0) (T 1), rwC S p rb (T 2) (T 3), hdC lb el mo (nI (esW v).length), arB K el cap (elF (esW v)), wasC S n p v] 76 [(7, .int (nI (19 + m))), (0, .ref (b 0)), (1, .ref sc), (2, rf S 0), (3, .ref (a 0)), (4, .ref lb), (6, .int (nI n))] [] := by
  intro j
  induction j with
  | zero =>
    intro m hm w a q v u t L el cap mo hw hv hls g
    refine Y_iload hX dX12_holds_76 0 rfl ?_
    refine Y_aload_n hX dX12_holds_78 2 rfl ?_
    refine Y_scl hX hE2 hx dX12_holds_79 ?_
    refine Y_icmp_ge (tgt := 1030) hX dX12_holds_80 (by decide) (fun h80 => ?_) (fun h80 => ?_)
    · refine Y_sub (lv' := [(0, .ref (b 0)), (1, .ref sc), (2, rf S 0), (3, .ref (a 0)), (4, .ref lb), (6, .int (nI n))]) [1, 2, 3, 4, 5, 6] rfl ?_
      refine Y_wd (kc' := 14300) (kn' := 118500) (by omega) (by omega) ?_
      exact kk w a q v u t L el cap mo g
    · refine Y_iload hX dX12_holds_83 0 rfl ?_
      refine Y_bipush (v := 63) hX dX12_holds_85 (by decide) ?_
      refine Y_icmp_ge (tgt := 1030) hX dX12_holds_87 (by decide) (fun _ => ?_) (fun z => absurd (show (63 : Int32) ≤ nI (19 + m) from nI_le (a := 63) (b := 19 + m) (by omega) (by omega)) z)
      refine Y_sub (lv' := [(0, .ref (b 0)), (1, .ref sc), (2, rf S 0), (3, .ref (a 0)), (4, .ref lb), (6, .int (nI n))]) [1, 2, 3, 4, 5, 6] rfl ?_
      refine Y_wd (kc' := 14300) (kn' := 118500) (by omega) (by omega) ?_
      exact kk w a q v u t L el cap mo g
  | succ j ih =>
    intro m hm w a q v u t L el cap mo hw hv hls g
    refine Y_iload hX dX12_holds_76 0 rfl ?_
    refine Y_aload_n hX dX12_holds_78 2 rfl ?_
    refine Y_scl hX hE2 hx dX12_holds_79 ?_
    refine Y_icmp_ge (tgt := 1030) hX dX12_holds_80 (by decide) (fun h80 => ?_) (fun h80 => ?_)
    · refine Y_sub (lv' := [(0, .ref (b 0)), (1, .ref sc), (2, rf S 0), (3, .ref (a 0)), (4, .ref lb), (6, .int (nI n))]) [1, 2, 3, 4, 5, 6] rfl ?_
      refine Y_wd (kc' := 14300) (kn' := 118500) (by omega) (by omega) ?_
      exact kk w a q v u t L el cap mo g
    · refine Y_iload hX dX12_holds_83 0 rfl ?_
      refine Y_bipush (v := 63) hX dX12_holds_85 (by decide) ?_
      refine Y_icmp_ge (tgt := 1030) hX dX12_holds_87 (by decide) (fun z => absurd z (show ¬ (63 : Int32) ≤ nI (19 + m) from nI_ge (a := 19 + m) (b := 63) (by omega) (by decide))) (fun _ => ?_)
      have hi : 19 + m < N := Nat.not_le.mp (fun z => h80 (nI_le z (by omega)))
      refine ho_a hE hF hx hV hM hN hX hE2 hr (kc := 1000 + 300 * m) (kn := 8000 + 2500 * m) (by omega) (by omega) (i := 19 + m) hi g (fun ac r9 a2 hac hr9 => ?_)
      refine ho_d hE hF hx hV hM hN hX hE2 hr (kc := 1000 + 300 * m) (kn := 8000 + 2500 * m) (by omega) (by omega) (i := 19 + m) (by omega) g hw hv hls hR (fun w2 a1 q1 v2 u2 t2 L2 el2 cap2 mo2 h1 h2 h3 g2 => ?_)
      exact Y_wd (by omega) (by omega) (ih (m + 1) (by omega) w2 a1 q1 v2 u2 t2 L2 el2 cap2 mo2 h1 h2 h3 g2)
set_option maxHeartbeats 4000000 in
theorem ho_e {X : Cx} {S : Sx} {K : Kx} {A : Nat → Prop} {E : Ex} {sc N mi : Nat} {xs : Nat → Int32} (hE : Stb E) (hF : ∀ (A : Nat → Prop) (s : State), E A s → KF S K A s s.heap) (hx : ∀ (A : Nat → Prop) (s : State), E A s → EX S K sc N xs A s) (hV : ∀ (A : Nat → Prop) (s : State), E A s → PVs s) (hM : ∀ (A : Nat → Prop) (s : State), E A s → va_Mi oaN mi s ∧ va_Dc s) (hN : N < 2 ^ 31) (hX : Yok X S K A cX12_holds RX12 23 rmY_X12_holds) (hE2 : YE X A E)  {n p rr : Nat} {b ra rb : Nat → Nat} {T : Tw} (hr : RuOk T (nI rr)) {lb : Nat}  {w : Wd} {a : Nat → Nat} {q : Bl} {v : Wz} {u : Us} {t : Nat → Int32} {L : List Int64} {el cap : Nat} {mo : Int32} (g : CQ w T q n p u t 0 L) (hR : YHi X S K A cX12_holds .boolean 1 (fun _ => []) 20000 150000) : Y X S K A 14300 118500 [wsOf S w, stB S n p a q, bnC S K n p b ra rb (T 4 2) (T 4 3) (T 4 4) (nI rr), rwC S n ra (T 0) (T 1), rwC S p rb (T 2) (T 3), hdC lb el mo (nI (esW v).length), arB K el cap (elF (esW v)), wasC S n p v] 1030 [(0, .ref (b 0)), (1, .ref sc), (2, rf S 0), (3, .ref (a 0)), (4, .ref lb), (6, .int (nI n))] [] := by
  obtain ⟨N9, K9, ok, hq⟩ := q_ok g
  have hn := ok.1
  have hp := ok.2.1
  refine Y_aload_n hX dX12_holds_1030 2 rfl ?_
  refine Y_iload hX dX12_holds_1031 5 rfl ?_
  refine Y_iconst (v := 0) hX dX12_holds_1033 (by decide) ?_
  obtain ⟨w1034, e1034, g1034⟩ := q_ringer g (nI n) 0
  rw [rg_out hn] at e1034
  refine Y_callWi (w2 := w1034) (v := (-7777777)) (As := [rf S 0, .int (nI n), .int 0]) (rest := []) hX hE2 hF mw_X12_205 nkY_X12_ringer (fun l hl => cW_X12_ringer l hl S e1034) rfl ⟨rfl, rfl, Nat.le_of_ble_eq_true rfl, Nat.le_of_ble_eq_true rfl⟩ rfl rfl (Nat.le_of_ble_eq_true rfl) dX12_holds_1034 ⟨by show _ ≤ 20000; omega, by show _ ≤ 150000; omega⟩ ?_
  show Y X S K A 14301 118506 [wsOf S w1034, stB S n p a q, bnC S K n p b ra rb (T 4 2) (T 4 3) (T 4 4) (nI rr), rwC S n ra (T 0) (T 1), rwC S p rb (T 2) (T 3), hdC lb el mo (nI (esW v).length), arB K el cap (elF (esW v)), wasC S n p v] 1037 [(0, .ref (b 0)), (1, .ref sc), (2, rf S 0), (3, .ref (a 0)), (4, .ref lb), (6, .int (nI n))] [.int (-7777777)]
  refine Y_ldc (v := (-7777777)) hX dX12_holds_1037 cn_X12_21 ?_
  refine Y_icmp_ne (tgt := 1080) hX dX12_holds_1039 (by decide) (fun z => absurd rfl z) (fun _ => ?_)
  refine Y_aload_n hX dX12_holds_1042 2 rfl ?_
  refine Y_aload_n hX dX12_holds_1043 0 rfl ?_
  refine Y_get 2 0 hX fk_X12_124 rfl rfl rfl dX12_holds_1044 ?_
  refine Y_alen (t0 := 5) (v := nI p) 2 2 hX rfl rfl rfl rfl dX12_holds_1047 ?_
  refine Y_iconst (v := 0) hX dX12_holds_1048 (by decide) ?_
  obtain ⟨w1049, e1049, g1049⟩ := q_person g1034 (nI p) 0
  rw [pe_out hp] at e1049
  refine Y_callWi (w2 := w1049) (v := (-7777777)) (As := [rf S 0, .int (nI p), .int 0]) (rest := []) hX hE2 hF mw_X12_212 nkY_X12_person (fun l hl => cW_X12_person l hl S e1049) rfl ⟨rfl, rfl, Nat.le_of_ble_eq_true rfl, Nat.le_of_ble_eq_true rfl⟩ rfl rfl (Nat.le_of_ble_eq_true rfl) dX12_holds_1049 ⟨by show _ ≤ 20000; omega, by show _ ≤ 150000; omega⟩ ?_
  show Y X S K A 14302 118512 [wsOf S w1049, stB S n p a q, bnC S K n p b ra rb (T 4 2) (T 4 3) (T 4 4) (nI rr), rwC S n ra (T 0) (T 1), rwC S p rb (T 2) (T 3), hdC lb el mo (nI (esW v).length), arB K el cap (elF (esW v)), wasC S n p v] 1052 [(0, .ref (b 0)), (1, .ref sc), (2, rf S 0), (3, .ref (a 0)), (4, .ref lb), (6, .int (nI n))] [.int (-7777777)]
  refine Y_ldc (v := (-7777777)) hX dX12_holds_1052 cn_X12_21 ?_
  refine Y_icmp_ne (tgt := 1080) hX dX12_holds_1054 (by decide) (fun z => absurd rfl z) (fun _ => ?_)
  refine Y_aload_n hX dX12_holds_1057 2 rfl ?_
  refine Y_bipush (v := 121) hX dX12_holds_1058 (by decide) ?_
  obtain ⟨w1060, e1060, g1060⟩ := q_minX g1049 (.inl rfl)
  refine Y_callCi (w2 := w1060) (v := (-1)) (As := [.int 121]) (rest := []) hX hE2 hF mk_X12_192 nk_X10_minutes (fun l => c_X10_minutes l S e1060) rfl tb_0 rfl ⟨rfl, rfl, Nat.le_of_ble_eq_true rfl, Nat.le_of_ble_eq_true rfl⟩ rfl rfl (Nat.le_of_ble_eq_true rfl) dX12_holds_1060 ⟨by show _ ≤ 20000; omega, by show _ ≤ 150000; omega⟩ ?_
  show Y X S K A 14302 118512 [wsOf S w1060, stB S n p a q, bnC S K n p b ra rb (T 4 2) (T 4 3) (T 4 4) (nI rr), rwC S n ra (T 0) (T 1), rwC S p rb (T 2) (T 3), hdC lb el mo (nI (esW v).length), arB K el cap (elF (esW v)), wasC S n p v] 1063 [(0, .ref (b 0)), (1, .ref sc), (2, rf S 0), (3, .ref (a 0)), (4, .ref lb), (6, .int (nI n))] [.int (-1)]
  refine Y_iconst (v := (-1)) hX dX12_holds_1063 (by decide) ?_
  refine Y_icmp_ne (tgt := 1080) hX dX12_holds_1064 (by decide) (fun z => absurd rfl z) (fun _ => ?_)
  refine Y_aload_n hX dX12_holds_1067 2 rfl ?_
  refine Y_iconst (v := (-1)) hX dX12_holds_1068 (by decide) ?_
  obtain ⟨w1069, e1069, g1069⟩ := q_minX g1060 (.inr rfl)
  refine Y_callCi (w2 := w1069) (v := (-1)) (As := [.int (-1)]) (rest := []) hX hE2 hF mk_X12_192 nk_X10_minutes (fun l => c_X10_minutes l S e1069) rfl tb_0 rfl ⟨rfl, rfl, Nat.le_of_ble_eq_true rfl, Nat.le_of_ble_eq_true rfl⟩ rfl rfl (Nat.le_of_ble_eq_true rfl) dX12_holds_1069 ⟨by show _ ≤ 20000; omega, by show _ ≤ 150000; omega⟩ ?_
  show Y X S K A 14302 118512 [wsOf S w1069, stB S n p a q, bnC S K n p b ra rb (T 4 2) (T 4 3) (T 4 4) (nI rr), rwC S n ra (T 0) (T 1), rwC S p rb (T 2) (T 3), hdC lb el mo (nI (esW v).length), arB K el cap (elF (esW v)), wasC S n p v] 1072 [(0, .ref (b 0)), (1, .ref sc), (2, rf S 0), (3, .ref (a 0)), (4, .ref lb), (6, .int (nI n))] [.int (-1)]
  refine Y_iconst (v := (-1)) hX dX12_holds_1072 (by decide) ?_
  refine Y_icmp_ne (tgt := 1080) hX dX12_holds_1073 (by decide) (fun z => absurd rfl z) (fun _ => ?_)
  refine Y_iconst (v := 1) hX dX12_holds_1076 (by decide) ?_
  refine Y_goto (tgt := 1081) hX dX12_holds_1077 (by decide) ?_
  refine Y_pick (bl' := []) [] (by decide) rfl ?_
  refine Y_wd (kc' := 20000) (kn' := 150000) (by omega) (by omega) ?_
  exact hR (fun _ => 0) _ _ rfl dX12_holds_1081
set_option maxHeartbeats 8000000 in
theorem ho_s {X : Cx} {S : Sx} {K : Kx} {A : Nat → Prop} {E : Ex} {sc N mi : Nat} {xs : Nat → Int32} (hE : Stb E) (hF : ∀ (A : Nat → Prop) (s : State), E A s → KF S K A s s.heap) (hx : ∀ (A : Nat → Prop) (s : State), E A s → EX S K sc N xs A s) (hV : ∀ (A : Nat → Prop) (s : State), E A s → PVs s) (hM : ∀ (A : Nat → Prop) (s : State), E A s → va_Mi oaN mi s ∧ va_Dc s) (hN : N < 2 ^ 31) (hX : Yok X S K A cX12_holds RX12 23 rmY_X12_holds) (hE2 : YE X A E)  {b9 : Nat} (hR : YHi X S K A cX12_holds .boolean 1 (fun _ => []) 20000 150000) : Y X S K A 88 1046 [wsOf S w0, [(b9, .inr (14, [.null, .null, .int 0, .int 0, .int 0, .int 0]))]] 7 [(0, .ref b9), (1, .ref sc)] [rf S 0] := by
  refine Y_astore_n (lv' := [(2, rf S 0), (0, .ref b9), (1, .ref sc)]) hX dX12_holds_7 (by decide) rfl ?_
  refine Y_aload_n hX dX12_holds_8 1 rfl ?_
  refine Y_aload_n hX dX12_holds_9 0 rfl ?_
  refine Y_aload_n hX dX12_holds_10 2 rfl ?_
  refine Y_bipush (v := 8) hX dX12_holds_11 (by decide) ?_
  refine Y_bipush (v := 8) hX dX12_holds_13 (by decide) ?_
  refine Y_resGq hX (sub := [wsOf S w0, [(b9, .inr (14, [.null, .null, .int 0, .int 0, .int 0, .int 0]))]]) (rst := []) rfl (Y_runV (b := 1) (i := 0) (As := [rf S 0, .ref sc, .int 8, .int 8]) (rest := []) hX hE2 mk_X12_217 nkY_X12_build hE (cY_X12_build hE hF hx hV hN w0_T w0_CQ) rfl Ecall.same rfl rfl rfl ⟨rfl, rfl⟩ ⟨Nat.le_of_ble_eq_true rfl, Nat.le_of_ble_eq_true rfl⟩ rfl rfl (Nat.le_of_ble_eq_true rfl) dX12_holds_15 ⟨Nat.le_of_ble_eq_true rfl, Nat.le_of_ble_eq_true rfl⟩) (fun v9 hv9 => ?_)
  obtain ⟨w, T, q, u, t, L, ⟨n, p, rr⟩, a, b, ra, rb⟩ := v9
  obtain ⟨g, hr, hb9⟩ := hv9
  obtain ⟨N9, K9, ok, hq⟩ := q_ok g
  have hn := ok.1
  have hul := q_ul g
  subst hb9
  show Y X S K A 488 5046 [wsOf S w, stB S n p a q, bnC S K n p b ra rb (T 4 2) (T 4 3) (T 4 4) (nI rr), rwC S n ra (T 0) (T 1), rwC S p rb (T 2) (T 3)] 18 [(2, rf S 0), (0, .ref (b 0)), (1, .ref sc)] [.ref (a 0)]
  refine Y_astore_n (lv' := [(3, .ref (a 0)), (2, rf S 0), (0, .ref (b 0)), (1, .ref sc)]) hX dX12_holds_18 (by decide) rfl ?_
  refine Y_aload_n hX dX12_holds_19 0 rfl ?_
  refine Y_ifnonnull (tgt := 25) hX dX12_holds_20 (by decide) ?_
  refine Y_new hX nw_X12_221 ⟨Nat.le_of_ble_eq_true rfl, Nat.le_of_ble_eq_true rfl⟩ dX12_holds_25 (fun lb => ?_)
  show Y X S K A 489 5049 [wsOf S w, stB S n p a q, bnC S K n p b ra rb (T 4 2) (T 4 3) (T 4 4) (nI rr), rwC S n ra (T 0) (T 1), rwC S p rb (T 2) (T 3), [(lb, .inr (2, [.int 0, .null, .int 0]))]] 28 [(3, .ref (a 0)), (2, rf S 0), (0, .ref (b 0)), (1, .ref sc)] [.ref lb]
  refine Y_dup hX dX12_holds_28 rfl ?_
  refine Y_pick [5, 0, 1, 2, 3, 4] (by decide) rfl ?_
  show Y X S K A 489 5049 [[(lb, .inr (2, [.int 0, .null, .int 0]))], wsOf S w, stB S n p a q, bnC S K n p b ra rb (T 4 2) (T 4 3) (T 4 4) (nI rr), rwC S n ra (T 0) (T 1), rwC S p rb (T 2) (T 3)] 29 [(3, .ref (a 0)), (2, rf S 0), (0, .ref (b 0)), (1, .ref sc)] [.ref lb, .ref lb]
  refine Y_resv hX (sub := [[(lb, .inr (2, [.int 0, .null, .int 0]))]]) (rst := [wsOf S w, stB S n p a q, bnC S K n p b ra rb (T 4 2) (T 4 3) (T 4 4) (nI rr), rwC S n ra (T 0) (T 1), rwC S p rb (T 2) (T 3)]) rfl (Y_runI (As := []) (rest := [.ref lb]) hX hE2 mk_X12_223 nkY_Jx4a65c_init_da8c8 hE (cY_Jx4a65c_init_da8c8 hE hF lb) rfl Ecall.same ⟨rfl, rfl⟩ ⟨Nat.le_of_ble_eq_true rfl, Nat.le_of_ble_eq_true rfl⟩ rfl rfl (Nat.le_of_ble_eq_true rfl) dX12_holds_29 ⟨Nat.le_of_ble_eq_true rfl, Nat.le_of_ble_eq_true rfl⟩) (fun u29 => ?_)
  show Y X S K A 489 5049 [hdC lb (K.2 3) 0 0, wsOf S w, stB S n p a q, bnC S K n p b ra rb (T 4 2) (T 4 3) (T 4 4) (nI rr), rwC S n ra (T 0) (T 1), rwC S p rb (T 2) (T 3)] 32 [(3, .ref (a 0)), (2, rf S 0), (0, .ref (b 0)), (1, .ref sc)] [.ref lb]
  refine Y_astore (lv' := [(4, .ref lb), (3, .ref (a 0)), (2, rf S 0), (0, .ref (b 0)), (1, .ref sc)]) hX dX12_holds_32 (by decide) rfl ?_
  refine Y_aload_n hX dX12_holds_34 2 rfl ?_
  refine Y_bipush (v := 14) hX dX12_holds_35 (by decide) ?_
  refine Y_pick [1, 0, 2, 3, 4, 5] (by decide) rfl ?_
  show Y X S K A 489 5049 [wsOf S w, hdC lb (K.2 3) 0 0, stB S n p a q, bnC S K n p b ra rb (T 4 2) (T 4 3) (T 4 4) (nI rr), rwC S n ra (T 0) (T 1), rwC S p rb (T 2) (T 3)] 37 [(4, .ref lb), (3, .ref (a 0)), (2, rf S 0), (0, .ref (b 0)), (1, .ref sc)] [.int 14, rf S 0]
  obtain ⟨w37, e37, g37⟩ := q_count g 14 (nI u.length) (fun c => cnt_14)
  refine Y_callCi (w2 := w37) (v := nI u.length) (As := [.int 14]) (rest := []) hX hE2 hF mk_X12_43 nk_X10_count (fun l => c_X10_count l S e37) rfl tb_0 rfl ⟨rfl, rfl, Nat.le_of_ble_eq_true rfl, Nat.le_of_ble_eq_true rfl⟩ rfl rfl (Nat.le_of_ble_eq_true rfl) dX12_holds_37 ⟨Nat.le_of_ble_eq_true rfl, Nat.le_of_ble_eq_true rfl⟩ ?_
  show Y X S K A 489 5049 [wsOf S w37, hdC lb (K.2 3) 0 0, stB S n p a q, bnC S K n p b ra rb (T 4 2) (T 4 3) (T 4 4) (nI rr), rwC S n ra (T 0) (T 1), rwC S p rb (T 2) (T 3)] 40 [(4, .ref lb), (3, .ref (a 0)), (2, rf S 0), (0, .ref (b 0)), (1, .ref sc)] [.int (nI u.length)]
  refine Y_istore (lv' := [(5, .int (nI u.length)), (4, .ref lb), (3, .ref (a 0)), (2, rf S 0), (0, .ref (b 0)), (1, .ref sc)]) hX dX12_holds_40 (by decide) rfl ?_
  refine Y_iconst (v := 0) hX dX12_holds_42 (by decide) ?_
  refine Y_istore (lv' := [(6, .int 0), (5, .int (nI u.length)), (4, .ref lb), (3, .ref (a 0)), (2, rf S 0), (0, .ref (b 0)), (1, .ref sc)]) hX dX12_holds_43 (by decide) rfl ?_
  have loop : ∀ (j k : Nat), k + j = u.length → ∀ (el cap : Nat) (mo : Int32), LsI K cap el (esW (List.replicate k none)) → Y X S K A (600 + 2 * k) (6000 + 20 * k) [wsOf S w37, stB S n p a q, bnC S K n p b ra rb (T 4 2) (T 4 3) (T 4 4) (nI rr), rwC S n ra (T 0) (T 1), rwC S p rb (T 2) (T 3), hdC lb el mo (nI (esW (List.replicate k none)).length), arB K el cap (elF (esW (List.replicate k none))), wasC S n p (List.replicate k none)] 45 [(6, .int (nI k)), (5, .int (nI u.length)), (0, .ref (b 0)), (1, .ref sc), (2, rf S 0), (3, .ref (a 0)), (4, .ref lb)] [] := by
    intro j
    induction j with
    | zero =>
      intro k hk el cap mo hls
      have hk2 : k = u.length := by omega
      refine Y_iload hX dX12_holds_45 0 rfl ?_
      refine Y_iload hX dX12_holds_47 1 rfl ?_
      refine Y_icmp_ge (tgt := 65) hX dX12_holds_49 (by decide) (fun _ => ?_) (fun z => absurd (nI_le (by omega) (by omega)) z)
      refine Y_aload_n hX dX12_holds_65 2 rfl ?_
      refine Y_get 2 0 hX fk_X12_73 rfl rfl rfl dX12_holds_66 ?_
      refine Y_alen (t0 := 5) (v := nI n) 2 1 hX rfl rfl rfl rfl dX12_holds_69 ?_
      refine Y_istore (lv' := [(6, .int (nI n)), (5, .int (nI u.length)), (0, .ref (b 0)), (1, .ref sc), (2, rf S 0), (3, .ref (a 0)), (4, .ref lb)]) hX dX12_holds_70 (by decide) rfl ?_
      refine Y_bipush (v := 19) hX dX12_holds_72 (by decide) ?_
      refine Y_istore (lv' := [(7, .int 19), (6, .int (nI n)), (5, .int (nI u.length)), (0, .ref (b 0)), (1, .ref sc), (2, rf S 0), (3, .ref (a 0)), (4, .ref lb)]) hX dX12_holds_74 (by decide) rfl ?_
      refine Y_sub (lv' := [(7, .int (nI (19 + 0))), (0, .ref (b 0)), (1, .ref sc), (2, rf S 0), (3, .ref (a 0)), (4, .ref lb), (6, .int (nI n))]) [0, 3, 4, 5, 6, 7, 1] rfl ?_
      refine Y_wd (kc' := 1000 + 300 * 0) (kn' := 8000 + 2500 * 0) (by omega) (by omega) ?_
      exact ho_k hE hF hx hV hM hN hX hE2 hr hR (fun w a q v u t L el cap mo g => ho_e hE hF hx hV hM hN hX hE2 hr g hR) 44 0 rfl w37 a q (List.replicate k none) u t L el cap mo (RelW_none k u hk2) (by rw [List.length_replicate]; omega) hls g37
    | succ j ih =>
      intro k hk el cap mo hls
      refine Y_iload hX dX12_holds_45 0 rfl ?_
      refine Y_iload hX dX12_holds_47 1 rfl ?_
      refine Y_icmp_ge (tgt := 65) hX dX12_holds_49 (by decide) (fun z => absurd z (nI_ge (show k < u.length by omega) (by omega))) (fun _ => ?_)
      refine Y_aload hX dX12_holds_52 6 rfl ?_
      refine Y_null hX dX12_holds_54 ?_
      refine Y_pick [5, 6, 7, 0, 1, 2, 3, 4] (by decide) rfl ?_
      show Y X S K A (600 + 2 * k) (6000 + 20 * k) [hdC lb el mo (nI (esW (List.replicate k none)).length), arB K el cap (elF (esW (List.replicate k none))), wasC S n p (List.replicate k none), wsOf S w37, stB S n p a q, bnC S K n p b ra rb (T 4 2) (T 4 3) (T 4 4) (nI rr), rwC S n ra (T 0) (T 1), rwC S p rb (T 2) (T 3)] 55 [(6, .int (nI k)), (5, .int (nI u.length)), (0, .ref (b 0)), (1, .ref sc), (2, rf S 0), (3, .ref (a 0)), (4, .ref lb)] [.null, .ref lb]
      refine Y_resi hX (sub := [hdC lb el mo (nI (esW (List.replicate k none)).length), arB K el cap (elF (esW (List.replicate k none))), wasC S n p (List.replicate k none)]) (rst := [wsOf S w37, stB S n p a q, bnC S K n p b ra rb (T 4 2) (T 4 3) (T 4 4) (nI rr), rwC S n ra (T 0) (T 1), rwC S p rb (T 2) (T 3)]) rfl (Y_runV (b := 0) (i := 0) (As := [.null]) (rest := []) hX hE2 mk_X12_224 nkY_Jx4a65c_add_9ea2d hE (cY_Jx4a65c_add_9ea2d hE hF hM lb el cap mo (esW (List.replicate k none)) (Ls_add hls (by rw [esW_len, List.length_replicate]; omega)) (wasC S n p (List.replicate k none)) (kept_was S n p (List.replicate k none)) none (fun y e => by cases e)) rfl Ecall.same rfl rfl rfl ⟨rfl, rfl⟩ ⟨Nat.le_of_ble_eq_true rfl, Nat.le_of_ble_eq_true rfl⟩ rfl rfl (Nat.le_of_ble_eq_true rfl) dX12_holds_55 ⟨by show _ ≤ 20000; omega, by show _ ≤ 150000; omega⟩) (fun u55 => ?_)
      show Y X S K A (600 + 2 * k + 1) (6000 + 20 * k + 15) [hdC lb (u55 0) (mo + 1) (nI (esW (List.replicate k none) ++ [none]).length), arB K (u55 0) (capN cap (esW (List.replicate k none)).length) (elF (esW (List.replicate k none) ++ [none])), wasC S n p (List.replicate k none), wsOf S w37, stB S n p a q, bnC S K n p b ra rb (T 4 2) (T 4 3) (T 4 4) (nI rr), rwC S n ra (T 0) (T 1), rwC S p rb (T 2) (T 3)] 58 [(6, .int (nI k)), (5, .int (nI u.length)), (0, .ref (b 0)), (1, .ref sc), (2, rf S 0), (3, .ref (a 0)), (4, .ref lb)] [.int 1]
      refine Y_pop hX dX12_holds_58 rfl ?_
      refine Y_iinc (v := nI (k + 1)) (lv' := [(6, .int (nI (k + 1))), (5, .int (nI u.length)), (0, .ref (b 0)), (1, .ref sc), (2, rf S 0), (3, .ref (a 0)), (4, .ref lb)]) hX dX12_holds_59 (j := 0) rfl (by decide) (iinc1 k) rfl ?_
      refine Y_goto (tgt := 45) hX dX12_holds_62 (by decide) ?_
      refine Y_pick (bl' := [wsOf S w37, stB S n p a q, bnC S K n p b ra rb (T 4 2) (T 4 3) (T 4 4) (nI rr), rwC S n ra (T 0) (T 1), rwC S p rb (T 2) (T 3), hdC lb (u55 0) (mo + 1) (nI (esW (List.replicate k none) ++ [none]).length), arB K (u55 0) (capN cap (esW (List.replicate k none)).length) (elF (esW (List.replicate k none) ++ [none])), wasC S n p (List.replicate k none)]) [3, 4, 5, 6, 7, 0, 1, 2] (by decide) rfl ?_
      refine Y_bl (bl' := [wsOf S w37, stB S n p a q, bnC S K n p b ra rb (T 4 2) (T 4 3) (T 4 4) (nI rr), rwC S n ra (T 0) (T 1), rwC S p rb (T 2) (T 3), hdC lb (u55 0) (mo + 1) (nI (esW (List.replicate (k + 1) none)).length), arB K (u55 0) (capN cap (esW (List.replicate k none)).length) (elF (esW (List.replicate (k + 1) none))), wasC S n p (List.replicate (k + 1) none)]) (by rw [List.replicate_succ, esW_push]; rfl) ?_
      exact Y_wd (by omega) (by omega) (ih (k + 1) (by omega) _ _ _ (by rw [List.replicate_succ, esW_push]; exact Ls_new hls (by rw [esW_len, List.length_replicate]; omega)))
  refine Y_sub (lv' := [(6, .int (nI 0)), (5, .int (nI u.length)), (0, .ref (b 0)), (1, .ref sc), (2, rf S 0), (3, .ref (a 0)), (4, .ref lb)]) [0, 1, 5, 6, 4, 3, 2] rfl ?_
  refine Y_pick (bl' := [wsOf S w37, stB S n p a q, bnC S K n p b ra rb (T 4 2) (T 4 3) (T 4 4) (nI rr), rwC S n ra (T 0) (T 1), rwC S p rb (T 2) (T 3), hdC lb (K.2 3) 0 0]) [0, 2, 3, 4, 5, 1] (by decide) rfl ?_
  refine Y_fl (bl' := [wsOf S w37, stB S n p a q, bnC S K n p b ra rb (T 4 2) (T 4 3) (T 4 4) (nI rr), rwC S n ra (T 0) (T 1), rwC S p rb (T 2) (T 3), hdC lb (K.2 3) 0 (nI (esW (List.replicate 0 none)).length), arB K (K.2 3) 0 (elF (esW (List.replicate 0 none))), wasC S n p (List.replicate 0 none)]) (by rfl) ?_
  exact Y_wd (kc' := 600 + 2 * 0) (kn' := 6000 + 20 * 0) (by omega) (by omega) (loop u.length 0 (by omega) (K.2 3) 0 0 (.inl ⟨rfl, rfl, rfl⟩))
set_option maxHeartbeats 4000000 in
theorem cY_X12_holds {S : Sx} {K : Kx} {E : Ex} {sc N mi : Nat} {xs : Nat → Int32} (hE : Stb E) (hF : ∀ (A : Nat → Prop) (s : State), E A s → KF S K A s s.heap) (hx : ∀ (A : Nat → Prop) (s : State), E A s → EX S K sc N xs A s) (hV : ∀ (A : Nat → Prop) (s : State), E A s → PVs s) (hM : ∀ (A : Nat → Prop) (s : State), E A s → va_Mi oaN mi s ∧ va_Dc s) (hN : N < 2 ^ 31) (b9 : Nat) : CY S K E yX12_holds cX12_holds 23 (some .boolean) rmY_X12_holds [.ref b9, .ref sc] [[(b9, .inr (14, [.null, .null, .int 0, .int 0, .int 0, .int 0]))]] (QYi S [[(b9, .inr (14, [.null, .null, .int 0, .int 0, .int 0, .int 0]))]] 1 (fun _ => [])) 20000 150000 := by
  refine y_meti (own := RX12) (by decide +kernel) rfl (Nat.le_of_ble_eq_true rfl) hE (fun X A hX hE2 hI hR => ?_)
  show Y X S K A 0 0 [[(b9, .inr (14, [.null, .null, .int 0, .int 0, .int 0, .int 0]))]] 0 [(0, .ref b9), (1, .ref sc)] []
  refine Y_new hX nw_X12_8 ⟨Nat.le_of_ble_eq_true rfl, Nat.le_of_ble_eq_true rfl⟩ dX12_holds_0 (fun h0 => ?_)
  show Y X S K A 1 13 [[(b9, .inr (14, [.null, .null, .int 0, .int 0, .int 0, .int 0]))], [(h0, .inr (12, [.null, .null, .null, .null, .null, .null, .null, .null, .null, .null, .int 0, .null, .null]))]] 3 [(0, .ref b9), (1, .ref sc)] [.ref h0]
  refine Y_dup hX dX12_holds_3 rfl ?_
  refine Y_pick [1, 0] (by decide) rfl ?_
  show Y X S K A 1 13 [[(h0, .inr (12, [.null, .null, .null, .null, .null, .null, .null, .null, .null, .null, .int 0, .null, .null]))], [(b9, .inr (14, [.null, .null, .int 0, .int 0, .int 0, .int 0]))]] 4 [(0, .ref b9), (1, .ref sc)] [.ref h0, .ref h0]
  refine Y_initZ (h0 := h0) hX mk_X12_216 rfl ⟨Nat.le_of_ble_eq_true rfl, Nat.le_of_ble_eq_true rfl⟩ rfl (Nat.le_of_ble_eq_true rfl) dX12_holds_4 ⟨Nat.le_of_ble_eq_true rfl, Nat.le_of_ble_eq_true rfl⟩ (fun u4 => ?_)
  exact ho_s (S := (S0 S h0 u4)) hE (fun A s h => hF A s h) (fun A s h => hx A s h) hV hM hN hX hE2 (fun u pc lv h1 h2 => hR u pc lv h1 h2)
