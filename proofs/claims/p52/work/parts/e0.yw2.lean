-- ===== a watch told: its text and what comes of it =====
def txA (x : Nat × Nat × Nat) : List Int32 := if x.1 = 0 then [116, nI (48 + x.2.1)] else if x.1 = 1 then [108, nI (48 + x.2.1)] else if x.1 = 2 then [99, nI (48 + x.2.1), nI (48 + x.2.2)] else if x.1 = 3 then [109, nI (48 + x.2.2)] else dgL (3 * x.2.2)
def okA (x : Nat × Nat × Nat) : Prop := x.1 < 5 ∧ x.2.1 < 8 ∧ x.2.2 < 8
def axP (T : Tw) (r : Nat) (x : Nat × Nat × Nat) (q : Bl) : Int32 × Bl := if x.1 = 0 then tkP r q (nI x.2.1) else if x.1 = 1 then lvP r q (nI x.2.1) else if x.1 = 2 then rvP r q (nI x.2.1) (nI x.2.2) else if x.1 = 3 then mnP q (nI x.2.2) else psP T q (nI (3 * x.2.2))
def lnL : List (Nat × Nat × Nat) → List Int32
  | [] => []
  | [x] => txA x
  | x :: y :: l => txA x ++ 59 :: lnL (y :: l)
def runA (T : Tw) (r : Nat) : List (Nat × Nat × Nat) → Nat → Bl → Bool × Nat × Bl
  | [], d, q => (false, d, q)
  | x :: l, d, q => if (axP T r x q).1 < 0 then (true, d, (axP T r x q).2) else runA T r l (d + 1) (axP T r x q).2
/-- one more after the others -/
theorem lnL_snoc (x : Nat × Nat × Nat) : ∀ l, l ≠ [] → lnL (l ++ [x]) = lnL l ++ 59 :: txA x := by
  intro l
  induction l with
  | nil => intro h; exact absurd rfl h
  | cons y l ih =>
    intro _
    cases l with
    | nil => rfl
    | cons z l =>
      show txA y ++ 59 :: lnL (z :: l ++ [x]) = (txA y ++ 59 :: lnL (z :: l)) ++ 59 :: txA x
      rw [ih (by simp), List.append_assoc]
      rfl
theorem runA_snoc (T : Tw) (r : Nat) (x : Nat × Nat × Nat) : ∀ l d q, runA T r (l ++ [x]) d q = if (runA T r l d q).1 = true then runA T r l d q else if (axP T r x (runA T r l d q).2.2).1 < 0 then (true, (runA T r l d q).2.1, (axP T r x (runA T r l d q).2.2).2) else (false, (runA T r l d q).2.1 + 1, (axP T r x (runA T r l d q).2.2).2) := by
  intro l
  induction l with
  | nil =>
    intro d q
    show (if (axP T r x q).1 < 0 then (true, d, (axP T r x q).2) else (false, d + 1, (axP T r x q).2)) = _
    rw [if_neg (show ¬ (runA T r [] d q).1 = true from fun h => nomatch h)]
    rfl
  | cons y l ih =>
    intro d q
    show (if (axP T r y q).1 < 0 then (true, d, (axP T r y q).2) else runA T r (l ++ [x]) (d + 1) (axP T r y q).2) = _
    by_cases c : (axP T r y q).1 < 0
    · rw [if_pos c]
      have e : runA T r (y :: l) d q = (true, d, (axP T r y q).2) := if_pos c
      rw [e, if_pos rfl]
    · rw [if_neg c, ih]
      have e : runA T r (y :: l) d q = runA T r l (d + 1) (axP T r y q).2 := if_neg c
      rw [e]
theorem tx_len {x : Nat × Nat × Nat} (h : okA x) : 1 ≤ (txA x).length ∧ (txA x).length ≤ 3 := by
  unfold txA
  split
  · exact ⟨Nat.le_of_ble_eq_true rfl, Nat.le_of_ble_eq_true rfl⟩
  · split
    · exact ⟨Nat.le_of_ble_eq_true rfl, Nat.le_of_ble_eq_true rfl⟩
    · split
      · exact ⟨Nat.le_of_ble_eq_true rfl, Nat.le_of_ble_eq_true rfl⟩
      · split
        · exact ⟨Nat.le_of_ble_eq_true rfl, Nat.le_of_ble_eq_true rfl⟩
        · rw [dg_len]; unfold szD; split <;> exact ⟨Nat.le_of_ble_eq_true rfl, Nat.le_of_ble_eq_true rfl⟩
-- signs
section SG
variable {t : Nat → Int32} {e p : Nat}
theorem dig_y {a : Nat} (h : atP t e p = nI (48 + a)) (ha : a < 10) : dgP t e p := by
  unfold dgP
  rw [h]
  exact (by decide +kernel : ∀ a, a < 10 → ¬ nI (48 + a) < 48 ∧ ¬ 57 < nI (48 + a)) a ha
theorem dig_n {x : Int32} (h : atP t e p = x) (hx : x = 59 ∨ x = -1) : ¬ dgP t e p := by
  unfold dgP
  rw [h]
  rcases hx with rfl | rfl <;> decide
theorem cnd_y {d : Nat} (h : dgP t e p) : cntP t e (d + 1) p = cntP t e d (p + 1) + 1 := if_pos h
theorem cnd_n {d : Nat} (h : ¬ dgP t e p) : cntP t e d p = 0 := by
  cases d with
  | zero => rfl
  | succ d => exact if_neg h
theorem vld_y {d : Nat} {v : Int32} (h : dgP t e p) : valP t e (d + 1) p v = valP t e d (p + 1) (v * 10 + atP t e p - 48) := if_pos h
theorem vld_n {d : Nat} {v : Int32} (h : ¬ dgP t e p) : valP t e d p v = v := by
  cases d with
  | zero => rfl
  | succ d => exact if_neg h
theorem dv0 : ∀ a, a < 10 → (0 : Int32) * 10 + nI (48 + a) - 48 = nI a := by decide +kernel
theorem dv1 : ∀ a, a < 10 → ∀ b, b < 10 → nI a * 10 + nI (48 + b) - 48 = nI (a * 10 + b) := by decide +kernel
theorem ax_0 (T : Tw) (r : Nat) (a b : Nat) (q : Bl) : axP T r (0, a, b) q = tkP r q (nI a) := if_pos rfl
theorem ax_1 (T : Tw) (r : Nat) (a b : Nat) (q : Bl) : axP T r (1, a, b) q = lvP r q (nI a) := (if_neg (show ¬ (1 : Nat) = 0 by decide)).trans (if_pos rfl)
theorem ax_2 (T : Tw) (r : Nat) (a b : Nat) (q : Bl) : axP T r (2, a, b) q = rvP r q (nI a) (nI b) := (if_neg (show ¬ (2 : Nat) = 0 by decide)).trans ((if_neg (show ¬ (2 : Nat) = 1 by decide)).trans (if_pos rfl))
theorem ax_3 (T : Tw) (r : Nat) (a b : Nat) (q : Bl) : axP T r (3, a, b) q = mnP q (nI b) := (if_neg (show ¬ (3 : Nat) = 0 by decide)).trans ((if_neg (show ¬ (3 : Nat) = 1 by decide)).trans ((if_neg (show ¬ (3 : Nat) = 2 by decide)).trans (if_pos rfl)))
theorem ax_4 (T : Tw) (r : Nat) (a b : Nat) (q : Bl) : axP T r (4, a, b) q = psP T q (nI (3 * b)) := (if_neg (show ¬ (4 : Nat) = 0 by decide)).trans ((if_neg (show ¬ (4 : Nat) = 1 by decide)).trans ((if_neg (show ¬ (4 : Nat) = 2 by decide)).trans (if_neg (show ¬ (4 : Nat) = 3 by decide))))
theorem xP_0 {T : Tw} {r : Nat} {q : Bl} {a : Int32 × Int32 × Int32} (h : a.1 = 0) : xP T r q a = tkP r q a.2.1 := if_pos h
theorem xP_1 {T : Tw} {r : Nat} {q : Bl} {a : Int32 × Int32 × Int32} (h : a.1 = 1) : xP T r q a = lvP r q a.2.1 := (if_neg (by rw [h]; decide)).trans (if_pos h)
theorem xP_2 {T : Tw} {r : Nat} {q : Bl} {a : Int32 × Int32 × Int32} (h : a.1 = 2) : xP T r q a = rvP r q a.2.1 a.2.2 := (if_neg (by rw [h]; decide)).trans ((if_neg (by rw [h]; decide)).trans (if_pos h))
theorem xP_3 {T : Tw} {r : Nat} {q : Bl} {a : Int32 × Int32 × Int32} (h : a.1 = 3) : xP T r q a = mnP q a.2.1 := (if_neg (by rw [h]; decide)).trans ((if_neg (by rw [h]; decide)).trans ((if_neg (by rw [h]; decide)).trans (if_pos h)))
theorem xP_4 {T : Tw} {r : Nat} {q : Bl} {a : Int32 × Int32 × Int32} (h : a.1 = -1) : xP T r q a = psP T q a.2.1 := (if_neg (by rw [h]; decide)).trans ((if_neg (by rw [h]; decide)).trans ((if_neg (by rw [h]; decide)).trans (if_neg (by rw [h]; decide))))
/-- one act, read where it stands -/
theorem act_at {x : Nat × Nat × Nat} (hx : okA x) (h : ∀ j, j < (txA x).length → atP t e (p + j) = (txA x).getD j 0) {z : Int32} (hz : atP t e (p + (txA x).length) = z) (z2 : z = 59 ∨ z = -1) : raOk t e p ∧ raAt t e p = p + (txA x).length ∧ ∀ T r q, xP T r q (acP t e p) = axP T r x q := by
  obtain ⟨k, a, b⟩ := x
  obtain ⟨hk, ha, hb⟩ := hx
  have ha : a < 8 := ha
  have hb : b < 8 := hb
  -- a sign and one number
  have one : ∀ (s : Int32) (v : Nat), v < 10 → sgP t e p = s → ¬ s < 0 → mS s = 1 → lS s = 1 → ¬ s = 2 → atP t e (p + 1) = nI (48 + v) → raOk t e p ∧ raAt t e p = p + 2 ∧ (acP t e p).1 = s ∧ (acP t e p).2.1 = nI v := by
    intro s v hv h0 h1 h2 h3 h4 h5
    have e1 : p1P t e p = p + 1 := by unfold p1P; rw [h0, if_neg h1]
    have e2 : cntP t e (mS (sgP t e p)) (p1P t e p) = 1 := by
      rw [h0, h2, e1, cnd_y (dig_y h5 hv)]; rfl
    refine ⟨by unfold raOk; rw [e2, h0, h3]; exact Nat.le_refl _, by unfold raAt; rw [e2, e1], h0, ?_⟩
    show valP t e (if sgP t e p = 2 then 1 else mS (sgP t e p)) (p1P t e p) 0 = nI v
    rw [h0, if_neg h4, h2, e1, vld_y (dig_y h5 hv), h5]
    exact dv0 v hv
  match k, hk with
  | 0, _ =>
    have h0 := h 0 (Nat.zero_lt_succ _)
    have h1 := h 1 (by show 1 < 2; decide)
    have hs : sgP t e p = 0 := by unfold sgP; rw [show atP t e p = 116 from h0]; exact (by decide : amO 5 116 = 0)
    obtain ⟨r1, r2, r3, r4⟩ := one 0 a (by omega) hs (by decide) (by decide) (by decide) (by decide) h1
    refine ⟨r1, r2, fun T r q => ?_⟩
    rw [xP_0 r3, r4, ax_0]
  | 1, _ =>
    have h0 := h 0 (Nat.zero_lt_succ _)
    have h1 := h 1 (by show 1 < 2; decide)
    have hs : sgP t e p = 1 := by unfold sgP; rw [show atP t e p = 108 from h0]; exact (by decide : amO 5 108 = 1)
    obtain ⟨r1, r2, r3, r4⟩ := one 1 a (by omega) hs (by decide) (by decide) (by decide) (by decide) h1
    refine ⟨r1, r2, fun T r q => ?_⟩
    rw [xP_1 r3, r4, ax_1]
  | 2, _ =>
    have h0 := h 0 (Nat.zero_lt_succ _)
    have h1 : atP t e (p + 1) = nI (48 + a) := h 1 (by show 1 < 3; decide)
    have h2 : atP t e (p + 1 + 1) = nI (48 + b) := h 2 (by show 2 < 3; decide)
    have hs : sgP t e p = 2 := by unfold sgP; rw [show atP t e p = 99 from h0]; exact (by decide : amO 5 99 = 2)
    have e1 : p1P t e p = p + 1 := by unfold p1P; rw [hs, if_neg (by decide)]
    have e2 : cntP t e (mS (sgP t e p)) (p1P t e p) = 2 := by
      rw [hs, e1, show mS 2 = 2 from by decide, cnd_y (dig_y h1 (by omega)), cnd_y (dig_y h2 (by omega))]; rfl
    refine ⟨by unfold raOk; rw [e2, hs]; decide, by unfold raAt; rw [e2, e1]; rfl, fun T r q => ?_⟩
    have r3 : (acP t e p).1 = 2 := hs
    have r4 : (acP t e p).2.1 = nI a := by
      show valP t e (if sgP t e p = 2 then 1 else mS (sgP t e p)) (p1P t e p) 0 = nI a
      rw [hs, if_pos rfl, e1, vld_y (dig_y h1 (by omega)), h1]
      exact dv0 a (by omega)
    have r5 : (acP t e p).2.2 = nI b := by
      show valP t e 1 (p1P t e p + 1) 0 = nI b
      rw [e1, vld_y (dig_y h2 (by omega)), h2]
      exact dv0 b (by omega)
    rw [xP_2 r3, r4, r5, ax_2]
  | 3, _ =>
    have h0 := h 0 (Nat.zero_lt_succ _)
    have h1 : atP t e (p + 1) = nI (48 + b) := h 1 (by show 1 < 2; decide)
    have hz2 : atP t e (p + 1 + 1) = z := hz
    have hs : sgP t e p = 3 := by unfold sgP; rw [show atP t e p = 109 from h0]; exact (by decide : amO 5 109 = 3)
    have e1 : p1P t e p = p + 1 := by unfold p1P; rw [hs, if_neg (by decide)]
    have e2 : cntP t e (mS (sgP t e p)) (p1P t e p) = 1 := by
      rw [hs, e1, show mS 3 = 2 from by decide, cnd_y (dig_y h1 (by omega)), cnd_n (dig_n hz2 z2)]
    refine ⟨by unfold raOk; rw [e2, hs]; decide, by unfold raAt; rw [e2, e1]; rfl, fun T r q => ?_⟩
    have r3 : (acP t e p).1 = 3 := hs
    have r4 : (acP t e p).2.1 = nI b := by
      show valP t e (if sgP t e p = 2 then 1 else mS (sgP t e p)) (p1P t e p) 0 = nI b
      rw [hs, if_neg (by decide), e1, show mS 3 = 2 from by decide, vld_y (dig_y h1 (by omega)), h1, vld_n (dig_n hz2 z2)]
      exact dv0 b (by omega)
    rw [xP_3 r3, r4, ax_3]
  | 4, _ =>
    have et : txA (4, a, b) = dgL (3 * b) := rfl
    rw [et] at h hz ⊢
    have neg : ∀ v, v < 10 → atP t e p = nI (48 + v) → sgP t e p = -1 := fun v hv q => by
      unfold sgP
      rw [q]
      exact (by decide +kernel : ∀ v, v < 10 → amO 5 (nI (48 + v)) = -1) v hv
    by_cases c : 3 * b < 10
    · have ed : dgL (3 * b) = [nI (48 + 3 * b)] := if_pos c
      rw [ed] at h hz ⊢
      have h0 : atP t e p = nI (48 + 3 * b) := h 0 (Nat.zero_lt_succ _)
      have hz2 : atP t e (p + 1) = z := hz
      have hs := neg _ c h0
      have e1 : p1P t e p = p := by unfold p1P; rw [hs, if_pos (by decide), Nat.add_zero]
      have e2 : cntP t e (mS (sgP t e p)) (p1P t e p) = 1 := by
        rw [hs, e1, show mS (-1) = 3 from by decide, cnd_y (dig_y h0 c), cnd_n (dig_n hz2 z2)]
      refine ⟨by unfold raOk; rw [e2, hs]; decide, by unfold raAt; rw [e2, e1]; rfl, fun T r q => ?_⟩
      have r3 : (acP t e p).1 = -1 := hs
      have r4 : (acP t e p).2.1 = nI (3 * b) := by
        show valP t e (if sgP t e p = 2 then 1 else mS (sgP t e p)) (p1P t e p) 0 = _
        rw [hs, if_neg (by decide), e1, show mS (-1) = 3 from by decide, vld_y (dig_y h0 c), h0, vld_n (dig_n hz2 z2)]
        exact dv0 _ c
      rw [xP_4 r3, r4, ax_4]
    · have ed : dgL (3 * b) = [nI (48 + 3 * b / 10), nI (48 + 3 * b % 10)] := if_neg c
      rw [ed] at h hz ⊢
      have d1 : 3 * b / 10 < 10 := by omega
      have d2 : 3 * b % 10 < 10 := by omega
      have h0 : atP t e p = nI (48 + 3 * b / 10) := h 0 (Nat.zero_lt_succ _)
      have h1 : atP t e (p + 1) = nI (48 + 3 * b % 10) := h 1 (by show 1 < 2; decide)
      have hz2 : atP t e (p + 1 + 1) = z := hz
      have hs := neg _ d1 h0
      have e1 : p1P t e p = p := by unfold p1P; rw [hs, if_pos (by decide), Nat.add_zero]
      have e2 : cntP t e (mS (sgP t e p)) (p1P t e p) = 2 := by
        rw [hs, e1, show mS (-1) = 3 from by decide, cnd_y (dig_y h0 d1), cnd_y (dig_y h1 d2), cnd_n (dig_n hz2 z2)]
      refine ⟨by unfold raOk; rw [e2, hs]; decide, by unfold raAt; rw [e2, e1]; rfl, fun T r q => ?_⟩
      have r3 : (acP t e p).1 = -1 := hs
      have r4 : (acP t e p).2.1 = nI (3 * b) := by
        show valP t e (if sgP t e p = 2 then 1 else mS (sgP t e p)) (p1P t e p) 0 = _
        rw [hs, if_neg (by decide), e1, show mS (-1) = 3 from by decide, vld_y (dig_y h0 d1), h0, dv0 _ d1, vld_y (dig_y h1 d2), h1, dv1 _ d1 _ d2, vld_n (dig_n hz2 z2)]
        congr 1
        omega
      rw [xP_4 r3, r4, ax_4]
  | k + 5, hk => exact absurd hk (by omega)
end SG
theorem getD_l {l m : List Int32} {j : Nat} (h : j < l.length) : (l ++ m).getD j 0 = l.getD j 0 := by rw [List.getD_eq_getElem?_getD, List.getElem?_append_left h, ← List.getD_eq_getElem?_getD]
theorem getD_r {l m : List Int32} (j : Nat) : (l ++ m).getD (l.length + j) 0 = m.getD j 0 := by rw [List.getD_eq_getElem?_getD, List.getElem?_append_right (Nat.le_add_right _ _), Nat.add_sub_cancel_left, ← List.getD_eq_getElem?_getD]
/-- the whole text: read to its end, and each act where it stands -/
theorem line_at {t : Nat → Int32} {e : Nat} : ∀ (l : List (Nat × Nat × Nat)) (m p : Nat), l ≠ [] → l.length ≤ m → (∀ x, x ∈ l → okA x) → e = p + (lnL l).length → (∀ j, j < (lnL l).length → atP t e (p + j) = (lnL l).getD j 0) → ∃ ps, wP t e m p = (true, e, ps) ∧ ∀ T r d q, rnP T r t e ps d q = runA T r l d q := by
  intro l
  induction l with
  | nil => intro m p h; exact absurd rfl h
  | cons x l ih =>
    intro m p _ hm hok he hat
    obtain ⟨m, rfl⟩ : ∃ m', m = m' + 1 := ⟨m - 1, by have : l.length + 1 ≤ m := hm; omega⟩
    have hx := hok x List.mem_cons_self
    cases l with
    | nil =>
      have hend : atP t e (p + (txA x).length) = -1 := if_neg (by rw [he]; exact Nat.lt_irrefl _)
      obtain ⟨r1, r2, r3⟩ := act_at hx hat hend (.inr rfl)
      refine ⟨[p], ?_, fun T r d q => ?_⟩
      · rw [wP, if_neg (fun z => by rw [r2, hend] at z; exact absurd z.2 (by decide)), r2]
        have hde : decide (raOk t e p) = true := decide_eq_true r1
        rw [hde, he]
        rfl
      · rw [rnP, runA, r3]
        rfl
    | cons y l =>
      have hl : (lnL (x :: y :: l)).length = (txA x).length + ((lnL (y :: l)).length + 1) := by
        show (txA x ++ 59 :: lnL (y :: l)).length = _
        rw [List.length_append]; rfl
      have hat1 : ∀ j, j < (txA x).length → atP t e (p + j) = (txA x).getD j 0 := fun j hj => by
        rw [hat j (by rw [hl]; omega)]
        exact getD_l hj
      have h59 : atP t e (p + (txA x).length) = 59 := by
        rw [hat (txA x).length (by rw [hl]; omega)]
        exact getD_r (l := txA x) (m := 59 :: lnL (y :: l)) 0
      obtain ⟨r1, r2, r3⟩ := act_at hx hat1 h59 (.inl rfl)
      obtain ⟨ps, i1, i2⟩ := ih m (p + (txA x).length + 1) (by simp) (by have : l.length + 1 + 1 ≤ m + 1 := hm; show l.length + 1 ≤ m; omega) (fun z hz => hok z (List.mem_cons_of_mem _ hz)) (by rw [he, hl]; omega) (fun j hj => by
        have z := hat ((txA x).length + (j + 1)) (by rw [hl]; omega)
        rw [show p + (txA x).length + 1 + j = p + ((txA x).length + (j + 1)) by omega, z]
        exact getD_r (l := txA x) (m := 59 :: lnL (y :: l)) (j + 1))
      refine ⟨p :: ps, ?_, fun T r d q => ?_⟩
      · rw [wP, r2, if_pos ⟨r1, h59⟩, i1]
      · rw [rnP, r3]
        show _ = if (axP T r x q).1 < 0 then _ else _
        by_cases c : (axP T r x q).1 < 0
        · rw [if_pos c, if_pos c]
        · rw [if_neg c, if_neg c, i2]
/-- what the class makes of a watch of one to three acts -/
theorem q_line {w : Wd} {T : Tw} {b : Bl} {r p : Nat} {u : Us} {L : List Int64} {l : List (Nat × Nat × Nat)} (h : CQ w T b r p u (fun k => (lnL l).getD k 0) (lnL l).length L) (h0 : l ≠ []) (h3 : l.length ≤ 3) (hok : ∀ x, x ∈ l → okA x) (hl : (lnL l).length ≤ 11) (hl1 : 1 ≤ (lnL l).length) : ∃ w1 t1, P_X10_watch 10000 w = some (nI (runA T r l 0 b).2.1, w1) ∧ CQ w1 T (runA T r l 0 b).2.2 r p (if (runA T r l 0 b).2.1 = 0 then u else psh b u) t1 0 [i64 (if (runA T r l 0 b).1 = true then 1 else 0), i64 ((runA T r l 0 b).2.2 13 - b 13)] := by
  obtain ⟨w1, e, g⟩ := q_watch h
  have hat : ∀ j, j < (lnL l).length → atP (fun k => (lnL l).getD k 0) (lnL l).length (0 + j) = (lnL l).getD j 0 := fun j hj => by
    rw [Nat.zero_add]
    exact if_pos hj
  obtain ⟨ps, i1, i2⟩ := line_at (t := fun k => (lnL l).getD k 0) l 61 0 h0 (by omega) hok (by rw [Nat.zero_add]) hat
  have hm : min (lnL l).length 60 = (lnL l).length := Nat.min_eq_left (by omega)
  have eR : wR (fun k => (lnL l).getD k 0) (lnL l).length = (true, (lnL l).length, ps) := by
    unfold wR
    rw [if_neg (by omega), hm, i1]
  have eF : wtF (fun k => (lnL l).getD k 0) (lnL l).length = 0 := by
    unfold wtF ftP
    rw [eR, if_pos ⟨rfl, hm.symm⟩, if_neg (by omega)]
  have eP : wtP T r b (fun k => (lnL l).getD k 0) (lnL l).length = runA T r l 0 b := by
    unfold wtP
    rw [eR, hm, i2]
  have n0 : ¬ (0 : Int32) < 0 := by decide
  have eq : qWatch T r b (fun k => (lnL l).getD k 0) (lnL l).length = (nI (runA T r l 0 b).2.1, some [i64 (if (runA T r l 0 b).1 = true then 1 else 0), i64 ((runA T r l 0 b).2.2 13 - b 13)]) := by
    unfold qWatch
    rw [eF, if_neg n0, eP]
  have eb : bWatch T r b (fun k => (lnL l).getD k 0) (lnL l).length = (runA T r l 0 b).2.2 := by
    unfold bWatch
    rw [eF, if_neg n0, eP]
  have eu : uWatch T r b (fun k => (lnL l).getD k 0) (lnL l).length u = if (runA T r l 0 b).2.1 = 0 then u else psh b u := by
    unfold uWatch
    rw [eF, if_neg n0, eP]
  rw [eq] at e g
  rw [eb, eu] at g
  exact ⟨w1, _, e, g⟩
