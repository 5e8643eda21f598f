def frm (T : Tw) (p i : Nat) : Int32 := if p ≤ i then 0 else if T 3 i = 0 then bit1 i else if T 3 i ≤ nI p - 1 then 0 else bit1 i
theorem hear_N {T : Tw} {r p N : Nat} (ok : okTw T r p N) (v : Int32) : ∃ h : Nat, h < 2 ^ p ∧ hearT T v = nI h := by
  have hp := ok.2.1
  have e : hearT T v = nI (orN (fun i => decide (i < p) && decide (T 2 i ≤ v)) 0 8) := by
    unfold hearT
    refine orR_N 8 0 (by decide) (fun i _ hi => ?_)
    rw [ok.2.2.2.1]
    by_cases h1 : i < p
    · rw [if_neg (nI_ge h1 (by omega)), decide_eq_true h1, Bool.true_and]
      by_cases h2 : T 2 i ≤ v
      · rw [if_pos h2, decide_eq_true h2]; rfl
      · rw [if_neg h2, decide_eq_false h2]; rfl
    · rw [if_pos (nI_le (by omega) (by omega)), decide_eq_false h1]; rfl
  refine ⟨_, ?_, e⟩
  refine sub_lt hp (orN_lt _ 8 0 (by decide)) (fun k hk hb => ?_)
  rw [orN_bit, Bool.and_eq_true, Bool.and_eq_true] at hb
  rw [Nat.testBit_two_pow_sub_one]
  exact hb.1.1
/-- who doubts is a set of townspeople -/
def okDb (b : Bl) (p : Nat) : Prop := ∃ d : Nat, d < 2 ^ p ∧ b 15 = nI d
theorem or_p {a b p : Nat} (ha : a < 2 ^ p) (hb : b < 2 ^ p) : a ||| b < 2 ^ p := Nat.or_lt_two_pow ha hb
