-- ===== what building asks =====
theorem arr_cg {cA : ClassId} {n : Nat} {f g : Nat → Int32} (h : ∀ j, j < n → f j = g j) : vp_cell cA (n, .inl f) = vp_cell cA (n, .inl g) := by
  show arrV cA n (fun j => .int (f j)) = arrV cA n (fun j => .int (g j))
  have e : (arrV cA n (fun j => Value.int (f j))).slots = (arrV cA n (fun j => Value.int (g j))).slots := by
    apply Array.ext
    · rw [arrV_size, arrV_size]
    · intro i h1 h2
      have h3 : i < n := by rw [arrV_size] at h1; exact h1
      have a := arrV_read cA (fun j => Value.int (f j)) h3
      have b := arrV_read cA (fun j => Value.int (g j)) h3
      rw [Array.getElem?_eq_getElem h1] at a
      rw [Array.getElem?_eq_getElem h2] at b
      rw [Option.some.inj a, Option.some.inj b]
      exact congrArg Value.int (h i h3)
  unfold arrV at e ⊢
  congr 1
section YA
variable {X : Cx} {S : Sx} {K : Kx} {A : Nat → Prop} {kc kn : Nat} {bl : Bk} {pc : Nat} {lv : List (Nat × Value)} {st : List Value}
/-- an array's numbers are known by its places alone -/
theorem Y_arI {a n : Nat} {cA : ClassId} {f : Nat → Int32} {ws : va_W} (g : Nat → Int32) (b i : Nat) (hb : bl[b]? = some ws) (he : ws[i]? = some (a, .inl (cA, n, .inl f))) (h : ∀ j, j < n → f j = g j) (kk : Y X S K A kc kn (bl.set b (ws.set i (a, .inl (cA, n, .inl g)))) pc lv st) : Y X S K A kc kn bl pc lv st := by
  obtain ⟨p, l, e, R, s, m, args, below, meth, c, Q⟩ := X
  intro H locs ls hP hD hS hl
  obtain ⟨q0, g1, g2⟩ := fl_at hb he
  refine kk H locs ls ?_ ?_ hS hl
  · rw [← g2]
    intro q c hq
    rw [List.getElem?_set] at hq
    by_cases e : q0 = q
    · rw [if_pos e] at hq
      split at hq
      · cases hq
        have z := hP q0 _ g1
        show H[a]? = some (vp_cell cA (n, .inl g))
        rw [← arr_cg h]
        exact z
      · cases hq
    · rw [if_neg e] at hq
      exact hP q c hq
  · rw [← g2]
    exact hD.set g1
end YA
theorem Ecall.str {S : Sx} {K : Kx} {A : Nat → Prop} {E : Ex} {bl sub rst : Bk} {s v : Nat} {l : List Int32} (hF : ∀ (A : Nat → Prop) (s : State), E A s → KF S K A s s.heap) (hbl : bl = sub ++ rst) (j : Nat) (hs : rst[j]? = some (stD K s v l)) : Ecall S K A E (ES S K (s, v, l)) bl sub := by
  intro U hP hD hK hw hE
  have m1 : (s, Sum.inr (0, [Value.ref v, .int 0, .int 0, .int 0])) ∈ rst.flatten := List.mem_flatten.mpr ⟨_, List.mem_of_getElem? hs, List.mem_cons_self⟩
  have m2 : (v, Sum.inl (K.1 0, l.length, Sum.inl (lsF l))) ∈ rst.flatten := List.mem_flatten.mpr ⟨_, List.mem_of_getElem? hs, List.mem_cons_of_mem _ List.mem_cons_self⟩
  rw [hbl, List.flatten_append] at hP hD
  have key : ∀ q e, (q, e) ∈ rst.flatten → ¬ va_A sub.flatten U.heap.size q := by
    intro q e hq hz
    rcases hz with ⟨k, e2, h⟩ | h
    · exact (List.pairwise_append.mp (vaD_iff.mp hD).1).2.2 _ (List.mem_of_getElem? h) _ hq rfl
    · exact absurd (vaP_iff.mp hP (q, e) (List.mem_append_right _ hq)).lt (Nat.not_lt.mpr h)
  exact ⟨hF _ _ hE, str_at (A := A) (x2 := .int 0) (x3 := .int 0) hP hK hw (List.mem_append_right _ m1) (List.mem_append_right _ m2) (fun j hj => rfl) ⟨key _ _ m1, key _ _ m2⟩⟩
theorem fl_two (pre : Bk) {a b c : va_W} (h : a ++ b = c) : (pre ++ [a, b]).flatten = (pre ++ [c]).flatten := by
  rw [List.flatten_append, List.flatten_append, ← h]
  simp
-- a text of two digits: one ringer, one of the town
def ab (a b : Nat) : List Int32 := [nI (48 + a), nI (48 + b)]
set_option maxRecDepth 100000 in
theorem en_ab : ∀ a, a < 9 → ∀ b, b < 10 → ∀ th, th < 8 → qEn (fun k => (ab (a + 1) b).getD k 0) 2 th = 1 ∧ lnE (fun k => (ab (a + 1) b).getD k 0) 2 th = 1 ∧ fsP (fun k => (ab (a + 1) b).getD k 0) 2 0 = nI (a + 1) ∧ scP (fun k => (ab (a + 1) b).getD k 0) 2 0 = nI b := by decide +kernel
theorem dg_ab {a b : Nat} (ha : a < 9) (hb : b < 10) : (([] : List Int32) ++ dgL (a + 1)) ++ dgL b = ab (a + 1) b := by
  unfold dgL
  rw [if_pos (by omega), if_pos hb]
  rfl
theorem ab_fit {a b : Nat} (ha : a < 9) (hb : b < 10) : ∀ i : Nat, fits .byte (.int ((ab (a + 1) b).getD i 0)) = true := by
  intro i
  match i with
  | 0 => exact (fit_48 (a + 1) (by omega)).1
  | 1 => exact (fit_48 b hb).1
  | i + 2 => rfl
theorem ab_c {a b : Nat} (ha : a < 9) (hb : b < 10) : ∀ k : Nat, ∃ c, c < 128 ∧ (ab (a + 1) b).getD k 0 = nI c := by
  intro k
  match k with
  | 0 => exact ⟨48 + (a + 1), by omega, rfl⟩
  | 1 => exact ⟨48 + b, by omega, rfl⟩
  | k + 2 => exact ⟨0, by decide, rfl⟩
-- the tables
def raU (ra : Nat → Nat) (k q : Nat) : Nat → Nat := fun j => if j = k then q else ra j
theorem outC_up {ra : Nat → Nat} {k q : Nat} (h : k < 2 ^ 31) : va_up (outC k ra) (nI k).toNatClampNeg (some q) = outC (k + 1) (raU ra k q) := by
  rw [nI_clamp h]
  funext j
  unfold va_up outC raU
  by_cases c : j = k
  · rw [if_pos c, if_pos (by omega), if_pos c]
  · rw [if_neg c, if_neg c]
    by_cases c2 : j < k
    · rw [if_pos c2, if_pos (by omega)]
    · rw [if_neg c2, if_neg (by omega)]
theorem outC_at2 {ra : Nat → Nat} {k q : Nat} (h : k < 2 ^ 31) : outC (k + 1) (raU ra k q) (nI k).toNatClampNeg = some q := by
  rw [nI_clamp h]
  unfold outC raU
  rw [if_pos (Nat.lt_succ_self _), if_pos rfl]
theorem rwC_snoc {S : Sx} {k : Nat} {ra : Nat → Nat} {f g : Nat → Int32} : rwC S (k + 1) ra f g = rwC S k ra f g ++ [(ra k, .inl (cAr S 0, 2, .inl (rw2 (f k) (g k))))] := by
  unfold rwC
  rw [List.range_succ, List.map_append]
  rfl
theorem rwC_congr {S : Sx} {k : Nat} {ra rb : Nat → Nat} {f g f' g' : Nat → Int32} (h : ∀ j, j < k → ra j = rb j ∧ f j = f' j ∧ g j = g' j) : rwC S k ra f g = rwC S k rb f' g' := by
  unfold rwC
  refine List.map_congr_left (fun j hj => ?_)
  obtain ⟨h1, h2, h3⟩ := h j (List.mem_range.mp hj)
  rw [h1, h2, h3]
theorem addT_f {T : Tw} {c th : Nat} {f g : Nat → Int32} (j : Nat) : addT T c th 1 f g c j = if j = th then f 0 else T c j := by
  unfold addT
  rw [if_pos rfl]
  by_cases e : j = th
  · rw [if_pos (by omega), if_pos e, e, Nat.sub_self]
  · rw [if_neg (by omega), if_neg e]
theorem addT_g {T : Tw} {c th : Nat} {f g : Nat → Int32} (j : Nat) : addT T c th 1 f g (c + 1) j = if j = th then g 0 else T (c + 1) j := by
  unfold addT
  rw [if_neg (by omega), if_pos rfl]
  by_cases e : j = th
  · rw [if_pos (by omega), if_pos e, e, Nat.sub_self]
  · rw [if_neg (by omega), if_neg e]
theorem addT_o {T : Tw} {c th : Nat} {f g : Nat → Int32} {x j : Nat} (h1 : x ≠ c) (h2 : x ≠ c + 1) (h3 : ¬ (x = 4 ∧ j = c / 2)) : addT T c th 1 f g x j = T x j := by
  unfold addT
  rw [if_neg h1, if_neg h2, if_neg h3]
theorem rwC_next {S : Sx} {T : Tw} {c k q : Nat} {ra : Nat → Nat} {f g : Nat → Int32} {x y : Int32} (hf : f 0 = x) (hg : g 0 = y) : rwC S k ra (T c) (T (c + 1)) ++ [(q, .inl (cAr S 0, 2, .inl (rw2 x y)))] = rwC S (k + 1) (raU ra k q) (addT T c k 1 f g c) (addT T c k 1 f g (c + 1)) := by
  rw [rwC_snoc]
  congr 1
  · refine rwC_congr (fun j hj => ⟨?_, ?_, ?_⟩)
    · unfold raU; rw [if_neg (by omega)]
    · rw [addT_f, if_neg (by omega)]
    · rw [addT_g, if_neg (by omega)]
  · rw [addT_f, addT_g, if_pos rfl, if_pos rfl, hf, hg]
    unfold raU
    rw [if_pos rfl]
/-- what stays as it was at the start; the rule's words -/
def BT (T : Tw) (rr : Nat) : Prop := T 4 2 = 5 ∧ T 4 3 = 0 ∧ T 4 4 = 2 ∧ T 6 0 = nI (ruM rr).length ∧ ∀ k, k < (ruM rr).length → T 5 k = cdL (ruM rr) k
theorem BT_add {T : Tw} {rr c th : Nat} {f g : Nat → Int32} (hc : c = 0 ∨ c = 2) (h : BT T rr) : BT (addT T c th 1 f g) rr := by
  obtain ⟨h1, h2, h3, h4, h5⟩ := h
  rcases hc with rfl | rfl
  · exact ⟨by rw [addT_o (by decide) (by decide) (by decide)]; exact h1, by rw [addT_o (by decide) (by decide) (by decide)]; exact h2, by rw [addT_o (by decide) (by decide) (by decide)]; exact h3, by rw [addT_o (by decide) (by decide) (by decide)]; exact h4, fun k hk => by rw [addT_o (by decide) (by decide) (by omega)]; exact h5 k hk⟩
  · exact ⟨by rw [addT_o (by decide) (by decide) (by decide)]; exact h1, by rw [addT_o (by decide) (by decide) (by decide)]; exact h2, by rw [addT_o (by decide) (by decide) (by decide)]; exact h3, by rw [addT_o (by decide) (by decide) (by decide)]; exact h4, fun k hk => by rw [addT_o (by decide) (by decide) (by omega)]; exact h5 k hk⟩
theorem ruK_lt : ∀ r, r < 8 → ruK r < 14 := by decide +kernel
theorem ruM_40 : ∀ r, r < 8 → (ruM r).length ≤ 40 := by decide +kernel
theorem q_rule {w : Wd} {T : Tw} {b : Bl} {r p k : Nat} {u : Us} {L : List Int64} (h : CQ w T b r p u (ruT k) (ruB k).length L) (hk : k < 8) : ∃ w1 T1, P_X10_rule 10000 w = some (0, w1) ∧ NewR T T1 (wU (ruT k) (ruB k).length).2.2 ∧ CQ w1 T1 b r p u (ruT k) 0 L := by
  obtain ⟨K, h⟩ := h
  obtain ⟨w1, T1, e, g1, g2⟩ := k_rule (F := 10000) (Nat.le_refl _) h (ru_ok k hk).2.1 (ru_ok k hk).1 (by rw [(ru_ok k hk).2.2]; exact ruM_40 k hk)
  exact ⟨w1, T1, e, g1, _, g2⟩
theorem BT_rule {T T' : Tw} {k : Nat} (hk : k < 8) (h1 : T 4 2 = 5) (h2 : T 4 3 = 0) (h3 : T 4 4 = 2) (h : NewR T T' (wU (ruT k) (ruB k).length).2.2) : BT T' k := by
  rw [(ru_ok k hk).2.2] at h
  obtain ⟨n1, n2, n3⟩ := h
  have e := n1 4 (by decide)
  exact ⟨by rw [e]; exact h1, by rw [e]; exact h2, by rw [e]; exact h3, n2, n3⟩
/-- the rule's words are the tower's still -/
theorem RuOk_of {T : Tw} {k : Nat} (hk : k < 8) (h4 : T 6 0 = nI (ruM k).length) (h5 : ∀ j, j < (ruM k).length → T 5 j = cdL (ruM k) j) : RuOk T (nI k) := by
  refine ru_val (T := T) hk ?_
  rw [(ru_ok k hk).2.2]
  exact ⟨fun _ _ => rfl, h4, h5⟩
-- the bell at the start
def q00 : Bl := fun k => if k = 9 then 50 else 0
def QzB (q : Bl) : Prop := ∀ k, 8 ≤ k → q k = q00 k
theorem QzB_0 : QzB q00 := fun _ _ => rfl
theorem QzB_sh {r : Nat} {kind n f step : Int32} {q : Bl} (h : QzB q) : QzB (shB r q kind n f step) := fun k hk => by unfold shB; rw [if_neg (by omega)]; exact h k hk
theorem tir_00 : tir q00 = fun _ => 0 := by
  funext k
  unfold tir q00
  by_cases c : k < 8
  · rw [if_pos c, if_neg (by omega)]
  · rw [if_neg c]
theorem rop_z {q : Bl} (h : QzB q) : rop q = fun _ => 0 := by
  funext k
  unfold rop
  rw [h 8 (by decide)]
  by_cases c : k < 8
  · rw [if_pos c]; exact (by decide +kernel : ∀ k, k < 8 → bt (q00 8) k = 0) k c
  · rw [if_neg c]
theorem dou_z {q : Bl} (h : QzB q) : dou q = fun _ => 0 := by
  funext k
  unfold dou
  rw [h 15 (by decide)]
  by_cases c : k < 8
  · rw [if_pos c]; exact (by decide +kernel : ∀ k, k < 8 → bt (q00 15) k = 0) k c
  · rw [if_neg c]
theorem stB_z {S : Sx} {n p : Nat} {a : Nat → Nat} {q : Bl} (h : QzB q) : stB S n p a q = stC S n p a (tir q) (fun _ => 0) (fun _ => 0) 50 0 0 0 0 0 := by
  unfold stB
  rw [rop_z h, dou_z h, h 9 (by decide), h 10 (by decide), h 11 (by decide), h 12 (by decide), h 13 (by decide), h 14 (by decide)]
  rfl
-- tiredness told by a sheet
def shG (f step : Int32) : Nat → Int32 := fun j => maxI 0 (minI 99 (f + nI j * step))
theorem sh_tir {n : Nat} {q : Bl} {f step : Int32} (hn : n ≤ 8) : tir (shB n q 2 8 f step) = mixF (shG f step) (fun _ => 0) n := by
  funext j
  unfold tir shB mixF
  by_cases c : j < 8
  · rw [if_pos c, if_pos c]
    unfold shV
    rw [if_neg (by decide), if_neg (show ¬ (8 : Int32) ≤ nI j from nI_ge (a := j) (b := 8) c (by decide))]
    by_cases c2 : j < n
    · rw [if_neg (by omega), if_pos c2]
      unfold enP shG
      rw [if_neg (by decide), if_neg (by decide)]
    · rw [if_pos (by omega), if_neg c2]
  · rw [if_neg c, if_neg (by omega)]
theorem sh_sum {n : Nat} {q : Bl} {f step : Int32} (hn : n ≤ 8) : (qSheet n q 2 8 f step).1 = sumR (shG f step) 0 n ∧ (qSheet n q 2 8 f step).2 = shB n q 2 8 f step := by
  unfold qSheet
  rw [if_neg (by decide), if_neg (by decide), if_pos (by decide), if_neg (by decide), if_pos (by decide)]
  refine ⟨?_, rfl⟩
  show sumR (shB n q 2 8 f step) 0 8 = _
  have e : ∀ j, j < 8 → shB n q 2 8 f step j = mixF (shG f step) (fun _ => 0) n j := fun j hj => by
    have := congrFun (sh_tir (n := n) (q := q) (f := f) (step := step) hn) j
    unfold tir at this
    rw [if_pos hj] at this
    exact this
  rw [sumR_congr 8 0 (fun i _ hi => e i (by omega)), sumR_8 hn (fun i h1 _ => by unfold mixF; rw [if_neg (by omega)])]
  exact sumR_congr n 0 (fun i _ hi => by unfold mixF; rw [if_pos (by omega)])
