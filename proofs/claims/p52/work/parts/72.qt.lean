-- ===== take, leave, mend, minutes =====
def MPc (b : Nat) : Prop := b = 23 ∨ b = 24 ∨ b = 27 ∨ b = 28 ∨ PaC b ∨ Scr b
theorem v_X10_remembered {F : Nat} (hF : 100 ≤ F) {w : Wd} {u : Us} (h : PsC w u) (v : Int32) : ∃ w2, P_X10_remembered F w v = some (v, w2) ∧ Fr PaC w w2 ∧ PsC w2 (pshU v (bC w 27) u) := by
  unfold P_X10_remembered pshU
  by_cases c : v < 0
  · rw [if_pos c, if_pos c]; exact ⟨w, rfl, Fr.rfl', h⟩
  · rw [if_neg c, if_neg c]
    obtain ⟨w2, a1, a2, a3⟩ := v_X4_push hF h 27 rfl
    rw [bnv_r a1]
    exact ⟨w2, rfl, a2, a3⟩
theorem ahead {F : Nat} (hF : 100 ≤ F) (w : Wd) : ∃ w1, P_X1_copy F w 27 23 = some w1 ∧ Fr (fun b => b = 27 ∨ b = 28) w w1 ∧ bC w1 27 = bC w 23 ∧ bC w1 23 = bC w 23 := by
  obtain ⟨w1, a1, a2, a3⟩ := v_X1_copy hF w 27 23 (by decide) (by decide) (by decide)
  exact ⟨w1, a1, a2, a3, bC_fr a2 (by omega) (by omega)⟩
/-- an act by one, remembered -/
theorem act_rem {F : Nat} (hF : 100 ≤ F) {w : Wd} {u : Us} (h : PsC w u) (o : Wd → Option (Int32 × Wd)) (v : Int32) (b' : Bl) (q : Nat → Prop) (hq : ∀ b, q b → b = 23 ∨ b = 24 ∨ Scr b) (ho : ∀ w1, Fr (fun b => b = 27 ∨ b = 28) w w1 → bC w1 23 = bC w 23 → ∃ w2, o w1 = some (v, w2) ∧ Fr q w1 w2 ∧ bC w2 23 = b') : ∃ w2, bnv (P_X1_copy F w 27 23) (fun w2 => bnd (o w2) (fun x4 w3 => bnd (P_X10_remembered F w3 x4) (fun x6 w5 => some (x6, w5)))) = some (v, w2) ∧ Fr MPc w w2 ∧ bC w2 23 = b' ∧ bC w2 27 = bC w 23 ∧ PsC w2 (pshU v (bC w 23) u) := by
  obtain ⟨w1, a1, a2, a3, a4⟩ := ahead hF w
  obtain ⟨w2, b1, b2, b3⟩ := ho w1 a2 a4
  have p1 : PsC w1 u := PsC_fr h a2 (fun b hb => by unfold PaC; omega)
  have p2 : PsC w2 u := PsC_fr p1 b2 (fun b hb => by have := hq b hb; unfold PaC; unfold Scr at this; omega)
  have k27 : bC w2 27 = bC w 23 := by rw [bC_fr b2 (fun hb => by have := hq _ hb; unfold Scr at this; omega) (fun hb => by have := hq _ hb; unfold Scr at this; omega), a3]
  obtain ⟨w3, c1, c2, c3⟩ := v_X10_remembered hF p2 v
  rw [k27] at c3
  rw [bnv_r a1, bnd_r b1, bnd_r c1]
  refine ⟨w3, rfl, ((a2.imp (fun b hb => ?_)).tr (b2.imp (fun b hb => ?_)) (fun _ h => h) (fun _ h => h)).tr (c2.imp (fun b hb => ?_)) (fun _ h => h) (fun _ h => h), ?_, ?_, c3⟩
  · unfold MPc; omega
  · have := hq b hb; unfold MPc
    rcases this with q | q | q
    · exact .inl q
    · exact .inr (.inl q)
    · exact .inr (.inr (.inr (.inr (.inr q))))
  · exact .inr (.inr (.inr (.inr (.inl hb))))
  · rw [bC_fr c2 (by unfold PaC; omega) (by unfold PaC; omega)]; exact b3
  · rw [bC_fr c2 (by unfold PaC; omega) (by unfold PaC; omega)]; exact k27
theorem v_X10_take {F : Nat} (hF : 100 ≤ F) {w : Wd} {r : Nat} (hr : r ≤ 8) (er : gI w 6 2 = nI r) {u : Us} (h : PsC w u) (x : Int32) : ∃ w2, P_X10_take F w x = some ((tkP r (bC w 23) x).1, w2) ∧ Fr MPc w w2 ∧ bC w2 23 = (tkP r (bC w 23) x).2 ∧ PsC w2 (pshU (tkP r (bC w 23) x).1 (bC w 23) u) := by
  obtain ⟨w2, a1, a2, a3, -, a4⟩ := act_rem hF h (fun w2 => P_X10_grasp F w2 x) (tkP r (bC w 23) x).1 (tkP r (bC w 23) x).2 (fun b => b = 23) (fun b hb => .inl hb) (fun w1 f e => by
    obtain ⟨w2, b1, b2, b3⟩ := v_X10_grasp (F := F) hr (show gI w1 6 2 = nI r by rw [(f 6 (by omega)).1]; exact er) x
    rw [e] at b1 b3
    exact ⟨w2, b1, b2, b3⟩)
  exact ⟨w2, a1, a2, a3, a4⟩
theorem v_X10_leave {F : Nat} (hF : 100 ≤ F) {w : Wd} {r : Nat} (hr : r ≤ 8) (er : gI w 6 2 = nI r) {u : Us} (h : PsC w u) (x : Int32) : ∃ w2, P_X10_leave F w x = some ((lvP r (bC w 23) x).1, w2) ∧ Fr MPc w w2 ∧ bC w2 23 = (lvP r (bC w 23) x).2 ∧ PsC w2 (pshU (lvP r (bC w 23) x).1 (bC w 23) u) := by
  obtain ⟨w2, a1, a2, a3, -, a4⟩ := act_rem hF h (fun w2 => P_X10_letGo F w2 x) (lvP r (bC w 23) x).1 (lvP r (bC w 23) x).2 (fun b => b = 23) (fun b hb => .inl hb) (fun w1 f e => by
    obtain ⟨w2, b1, b2, b3⟩ := v_X10_letGo (F := F) hr (show gI w1 6 2 = nI r by rw [(f 6 (by omega)).1]; exact er) x
    rw [e] at b1 b3
    exact ⟨w2, b1, b2, b3⟩)
  exact ⟨w2, a1, a2, a3, a4⟩
def setB (b : Bl) (k : Nat) (v : Int32) : Bl := fun j => if j = k then v else b j
def mnP (b : Bl) (x : Int32) : Int32 × Bl := if x < 1 then (-1, b) else if x ≤ 99 then (minI 99 (b 9 + x), setB b 9 (minI 99 (b 9 + x))) else (-1, b)
theorem bC_setB {w : Wd} {a k : Nat} (h1 : 1 ≤ k) (h2 : k < 9) (v : Int32) : bC (sI w a k v) a = setB (bC w a) (k + 7) v := by
  funext j
  show bC (sI w a k v) a j = if j = k + 7 then v else bC w a j
  unfold bC
  by_cases h8 : j < 8
  · rw [if_pos h8, if_neg (show ¬ j = k + 7 by omega), if_pos h8, gIa (by omega)]
  · rw [if_neg h8]
    by_cases h16 : j < 16
    · rw [if_pos h16]
      by_cases h : j = k + 7
      · rw [if_pos h, show j - 7 = k by omega, gIs]
      · rw [if_neg h, if_neg h8, if_pos h16, gIk (by omega)]
    · rw [if_neg h16, if_neg (show ¬ j = k + 7 by omega), if_neg h8, if_neg h16]
theorem v_X10_splice (F : Nat) (w : Wd) (x : Int32) : ∃ w2, P_X10_splice F w x = some ((mnP (bC w 23) x).1, w2) ∧ Fr (fun b => b = 23) w w2 ∧ bC w2 23 = (mnP (bC w 23) x).2 := by
  unfold P_X10_splice mnP
  by_cases h1 : x < 1
  · rw [if_pos h1, if_pos h1]; exact ⟨w, rfl, Fr.rfl', rfl⟩
  rw [if_neg h1, if_neg h1]
  by_cases h2 : x ≤ 99
  · rw [if_pos h2, if_pos h2, lt_v, gIs]
    exact ⟨_, rfl, Fr.ofI, bC_setB (k := 2) (by decide) (by decide) _⟩
  · rw [if_neg h2, if_neg h2]; exact ⟨w, rfl, Fr.rfl', rfl⟩
theorem v_X10_mend {F : Nat} (hF : 100 ≤ F) {w : Wd} {u : Us} (h : PsC w u) (x : Int32) : ∃ w2, P_X10_mend F w x = some ((mnP (bC w 23) x).1, w2) ∧ Fr MPc w w2 ∧ bC w2 23 = (mnP (bC w 23) x).2 ∧ PsC w2 (pshU (mnP (bC w 23) x).1 (bC w 23) u) := by
  obtain ⟨w2, a1, a2, a3, -, a4⟩ := act_rem hF h (fun w2 => P_X10_splice F w2 x) (mnP (bC w 23) x).1 (mnP (bC w 23) x).2 (fun b => b = 23) (fun b hb => .inl hb) (fun w1 f e => by
    obtain ⟨w2, b1, b2, b3⟩ := v_X10_splice F w1 x
    rw [e] at b1 b3
    exact ⟨w2, b1, b2, b3⟩)
  exact ⟨w2, a1, a2, a3, a4⟩
def psP (T : Tw) (b : Bl) (x : Int32) : Int32 × Bl := if x < 0 then (-1, b) else if x ≤ 120 then (itM T x.toNatClampNeg b 11 - b 11, itM T x.toNatClampNeg b) else (-1, b)
def P23 (b : Nat) : Prop := b = 23 ∨ b = 24 ∨ Scr b
theorem Kp_P23 : Kp P23 := fun b hb => by
  rcases hb with h | h | h
  · omega
  · omega
  · exact .inr (.inl h)
theorem v_X10_pass {F : Nat} (hF : 1000 ≤ F) {w : Wd} (okt : okT w 5) (x : Int32) : ∃ w2, P_X10_pass F w x = some ((psP (tC w 5) (bC w 23) x).1, w2) ∧ Fr P23 w w2 ∧ bC w2 23 = (psP (tC w 5) (bC w 23) x).2 := by
  unfold P_X10_pass psP
  by_cases h1 : x < 0
  · rw [if_pos h1, if_pos h1]; exact ⟨w, rfl, Fr.rfl', rfl⟩
  rw [if_neg h1, if_neg h1]
  by_cases h2 : x ≤ 120
  · rw [if_pos h2, if_pos h2, lt_v]
    obtain ⟨n, hn1, hn2, rfl⟩ := rng h1 h2 (A := 0) (B := 120)
    rw [nI_clamp (by omega)]
    have key : ∀ m j, j + m = n → ∀ f, m < f → ∀ v b, Fr P23 w v → bC v 23 = b → ∃ v2, L_X10_pass_22 F (nI n) (gI w 23 4) (fun u  => some ((gI u 23 4) - gI w 23 4, u)) f v (nI j) = some (itM (tC w 5) m b 11 - bC w 23 11, v2) ∧ Fr P23 w v2 ∧ bC v2 23 = itM (tC w 5) m b := by
      intro m
      induction m with
      | zero =>
        intro j hj f hf v b g1 g2
        obtain ⟨f, rfl⟩ : ∃ q, f = q + 1 := ⟨f - 1, by omega⟩
        obtain rfl : j = n := by omega
        rw [L_X10_pass_22, if_pos (Int32.le_refl _)]
        have k4 : gI v 23 4 = b 11 := by rw [← g2]; rfl
        exact ⟨v, by rw [k4]; rfl, g1, g2⟩
      | succ m ih =>
        intro j hj f hf v b g1 g2
        obtain ⟨f, rfl⟩ : ∃ q, f = q + 1 := ⟨f - 1, by omega⟩
        obtain ⟨v1, a1, a2, a3⟩ := v_X9_minute (F := F) (by omega) v 5 23 (okT_fr Kp_P23 g1 okt) (by decide)
        rw [tC_fr Kp_P23 g1 okt, g2] at a3
        rw [L_X10_pass_22, if_neg (nI_ge (by omega) (by omega)), bnv_r a1, lt_v, nI_1]
        exact ih (j + 1) (by omega) f (by omega) v1 _ (g1.tr a2 (fun _ h => h) (fun b hb => by unfold P23; rcases hb with q | q | q; exact .inr (.inr q); exact .inl q; exact .inr (.inl (by omega)))) a3
    exact key n 0 (by omega) F (by omega) w _ Fr.rfl' rfl
  · rw [if_neg h2, if_neg h2]; exact ⟨w, rfl, Fr.rfl', rfl⟩
/-- how many of so many minutes were rung -/
theorem rungN (T : Tw) : ∀ n b, ∃ c : Nat, c ≤ n ∧ itM T n b 11 = b 11 + nI c := by
  intro n
  induction n with
  | zero => intro b; exact ⟨0, Nat.le_refl _, (add0 _).symm⟩
  | succ n ih =>
    intro b
    obtain ⟨c, h1, h2⟩ := ih (mi T b)
    have e : mi T b 11 = b 11 + (if loudT T b (b 8) ≤ 0 then 0 else 1) := mi_11 T b
    show ∃ c, c ≤ n + 1 ∧ itM T n (mi T b) 11 = _
    rw [h2, e]
    split
    · exact ⟨c, by omega, by rw [add0]⟩
    · exact ⟨1 + c, by omega, by rw [addA, show (1 : Int32) = nI 1 from rfl, nI_add]⟩
theorem rungA (T : Tw) (n : Nat) (b : Bl) : ∃ c : Nat, c ≤ n ∧ itM T n b 11 - b 11 = nI c := by
  obtain ⟨c, h1, h2⟩ := rungN T n b
  refine ⟨c, h1, ?_⟩
  rw [h2, Int32.add_comm, Int32.add_sub_cancel]
def qMin (T : Tw) (b : Bl) (x : Int32) : Ans := ((psP T b x).1, if (psP T b x).1 < 0 then none else some [i64 ((psP T b x).2 13 - b 13), i64 ((psP T b x).2 15 &&& (b 15 ^^^ (-1)))])
def MPt (b : Nat) : Prop := MPc b ∨ b = 3 ∨ b = 4
theorem v_X10_minutes {F : Nat} (hF : 1000 ≤ F) {w : Wd} (okt : okT w 5) {u : Us} (h : PsC w u) (x : Int32) : ∃ w2, P_X10_minutes F w x = some ((qMin (tC w 5) (bC w 23) x).1, w2) ∧ Fr MPt w w2 ∧ bC w2 23 = (psP (tC w 5) (bC w 23) x).2 ∧ PsC w2 (pshU (psP (tC w 5) (bC w 23) x).1 (bC w 23) u) ∧ tqC (qMin (tC w 5) (bC w 23) x).2 w w2 := by
  have hK : Kp (fun b => b = 27 ∨ b = 28) := fun b hb => by omega
  obtain ⟨w2, a1, a2, a3, a5, a4⟩ := act_rem (F := F) (by omega) h (fun w2 => P_X10_pass F w2 x) (psP (tC w 5) (bC w 23) x).1 (psP (tC w 5) (bC w 23) x).2 P23 (fun b hb => hb) (fun w1 f e => by
    obtain ⟨w2, b1, b2, b3⟩ := v_X10_pass hF (okT_fr hK f okt) x
    rw [tC_fr hK f okt, e] at b1 b3
    exact ⟨w2, b1, b2, b3⟩)
  have hfull : P_X10_minutes F w x = bnd (bnv (P_X1_copy F w 27 23) (fun w2 => bnd (P_X10_pass F w2 x) (fun x4 w3 => bnd (P_X10_remembered F w3 x4) (fun x6 w5 => some (x6, w5))))) (fun x6 w5 => (if x6 < 0 then some (x6, w5) else bnv (P_X10_tell F w5 (Int32.toInt64 ((gI w5 23 6) - (gI w5 27 6))) (Int32.toInt64 ((gI w5 23 8) &&& ((gI w5 27 8) ^^^ ((-1)))))) (fun w8 => some (x6, w8)))) := by
    unfold P_X10_minutes
    cases P_X1_copy F w 27 23 with
    | none => rfl
    | some w1 =>
      show bnd (P_X10_pass F w1 x) _ = bnd (bnd (P_X10_pass F w1 x) _) _
      cases P_X10_pass F w1 x with
      | none => rfl
      | some q =>
        obtain ⟨q1, q2⟩ := q
        show bnd (P_X10_remembered F q2 q1) _ = bnd (bnd (P_X10_remembered F q2 q1) _) _
        cases P_X10_remembered F q2 q1 with
        | none => rfl
        | some q => rfl
  rw [hfull, bnd_r a1]
  unfold qMin
  by_cases c : (psP (tC w 5) (bC w 23) x).1 < 0
  · rw [if_pos c, if_pos c]
    exact ⟨w2, rfl, a2.imp (fun _ h => .inl h), a3, a4, (a2 3 (by unfold MPc PaC Scr; omega)).1, (a2 4 (by unfold MPc PaC Scr; omega)).2.1⟩
  · rw [if_neg c, if_neg c]
    have k1 : gI w2 23 6 = (psP (tC w 5) (bC w 23) x).2 13 := by rw [← a3]; rfl
    have k2 : gI w2 27 6 = bC w 23 13 := by rw [← a5]; rfl
    have k3 : gI w2 23 8 = (psP (tC w 5) (bC w 23) x).2 15 := by rw [← a3]; rfl
    have k4 : gI w2 27 8 = bC w 23 15 := by rw [← a5]; rfl
    rw [k1, k2, k3, k4]
    obtain ⟨w3, b1, b2, b3⟩ := v_X10_tell2 F w2 (Int32.toInt64 ((psP (tC w 5) (bC w 23) x).2 13 - bC w 23 13)) (Int32.toInt64 ((psP (tC w 5) (bC w 23) x).2 15 &&& (bC w 23 15 ^^^ (-1))))
    rw [bnv_r b1]
    exact ⟨w3, rfl, (a2.imp (fun _ h => Or.inl h)).tr (b2.imp (fun _ h => Or.inr h)) (fun _ h => h) (fun _ h => h), by rw [bC_fr b2 (by omega) (by omega)]; exact a3, PsC_fr a4 b2 (fun b hb => by unfold PaC; omega), b3⟩
