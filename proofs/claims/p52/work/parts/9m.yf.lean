-- ===== each change: both answer alike and go on alike =====
/-- no reference is moved -/
def RRf (w0 : Wd) (o : Option (Int32 × Wd)) : Prop := ∀ r, o = some r → r.2.2.2 = w0.2.2
theorem RRf_s {w0 w : Wd} {v : Int32} (h : w.2.2 = w0.2.2) : RRf w0 (some (v, w)) := fun r e => by rw [← Option.some.inj e]; exact h
theorem RRf_i {w0 : Wd} {c : Prop} [Decidable c] {x y : Option (Int32 × Wd)} (h1 : RRf w0 x) (h2 : RRf w0 y) : RRf w0 (if c then x else y) := by
  by_cases h : c
  · rw [if_pos h]; exact h1
  · rw [if_neg h]; exact h2
theorem set_R (F : Nat) (w : Wd) (x v : Int32) : RRf w (P_X10_set F w x v) := by
  have h70 : ∀ y, RRf w (K_X10_set_70 F x v w y) := fun y => by
    unfold K_X10_set_70
    exact RRf_i (RRf_i (RRf_s rfl) (RRf_i (RRf_s rfl) (RRf_s rfl))) (RRf_s rfl)
  have h36 : ∀ y, RRf w (K_X10_set_36 F x v w y) := fun y => by
    unfold K_X10_set_36
    exact RRf_i (RRf_i (h70 y) (RRf_i (h70 y) (RRf_s rfl))) (h70 y)
  unfold P_X10_set
  exact RRf_i (RRf_i (h36 _) (RRf_i (h36 _) (RRf_s rfl))) (h36 _)
theorem K27_R (F a : Nat) (w : Wd) (x : Int32) : RRf w (K_X10_enrol_27 F a w x) := by
  unfold K_X10_enrol_27
  exact RRf_i (RRf_s rfl) (RRf_s rfl)
theorem enrol_R {F : Nat} (hF : 100 ≤ F) {w w2 : Wd} {a th : Nat} (ha : a = 6 ∨ a = 9) (h8 : th ≤ 8) (ht : gI w a 2 = nI th) {t : Nat → Int32} {n : Nat} (hx : TxC w t n) {v : Int32} (e : P_X10_enrol F w a = some (v, w2)) : gR w2 0 4 = gR w 0 4 := by
  have hn := hx.2.1
  have hws := wS_ok (t := t) (th := th) hn h8
  unfold P_X10_enrol at e
  rw [bnd_r (v_X5_faultIn hF hx ht h8)] at e
  rcases cq_ft n (wS t n th).2.1 (wS t n th).1 hn hws.1 with ⟨c1, c2, c3, c4, c5⟩ | ⟨c1, c2, c3⟩
  · have hq := hws.2 c4 c5 c3
    rw [if_pos c1] at e
    obtain ⟨w1, a1, a2⟩ := v_X5_admit hF ha hx ht ⟨hq.1, hq.2.1⟩ hq.2.2
    rw [bnd_r a1] at e
    have := K27_R F a w1 _ _ e
    have e2 : gR w2 0 4 = gR w1 0 4 := by unfold gR; rw [this]
    rw [e2]
    exact (a2.1 0 (by omega)).2.2 4
  · rw [if_neg c1] at e
    have := K27_R F a w _ _ e
    unfold gR; rw [this]
theorem sgb_b (v : Int32) (j : Nat) : ∃ c : Nat, c < 256 ∧ sgb v j = nI c := by
  obtain ⟨c, h1, h2⟩ := pk_andE (iushrI v (nI (24 - 8 * j))) (m := 255) 8 (by decide)
  exact ⟨c, h1, h2⟩
theorem BlI_r {b : Bl} {r r2 p p2 K : Nat} (h : BlI b r p K) (hr : r ≤ r2) (hp : p ≤ p2) : BlI b r2 p2 K := by
  obtain ⟨⟨z1, z2⟩, ⟨s, s1, s2, s3⟩, a3, ⟨d, d1, d2⟩, a5⟩ := h
  exact ⟨⟨fun k h1 h2 => z1 k (by omega) h2, z2⟩, ⟨s, Nat.lt_of_lt_of_le s1 (Nat.pow_le_pow_right (by decide) hr), s2, s3⟩, a3, ⟨d, Nat.lt_of_lt_of_le d1 (Nat.pow_le_pow_right (by decide) hp), d2⟩, a5⟩
theorem psh_all {r p K : Nat} {b : Bl} {u : Us} (hb : BlI b r p K) (hu : ∀ x, x ∈ u → BlI x r p K) (a : Int32) : ∀ x, x ∈ pshU a b u → BlI x r p K := by
  intro x hx
  unfold pshU at hx
  by_cases c : a < 0
  · rw [if_pos c] at hx; exact hu x hx
  · rw [if_neg c] at hx
    rcases List.mem_cons.mp (List.mem_of_mem_take hx) with rfl | h
    · exact hb
    · exact hu x h
theorem bC_hi {w : Wd} {a k : Nat} (h : ¬ k < 16) : bC w a k = 0 := by unfold bC; rw [if_neg (by omega), if_neg h]
theorem Tl_q {w w2 : Wd} {L : List Int64} {o : Option (List Int64)} (h : Tl w L) (tq : tqC o w w2) : Tl w2 (o.getD L) := by
  cases o with
  | none => exact ⟨by rw [tq.1]; exact h.1, fun k hk => by rw [tq.2]; exact h.2 k hk⟩
  | some L' => exact tq
theorem getD_le {L : List Int64} {o : Option (List Int64)} (h : L.length ≤ 6) (ho : ∀ L', o = some L' → L'.length ≤ 6) : (o.getD L).length ≤ 6 := by
  cases o with
  | none => exact h
  | some L' => exact ho L' rfl
