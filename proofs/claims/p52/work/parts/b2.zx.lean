def nr (T : Tw) : Nat := (T 4 0).toNatClampNeg
theorem qEnd_le {n : Nat} (hn : n ≤ 80) (x : Int32) : (qEnd n x).2 ≤ n := by
  unfold qEnd
  by_cases h1 : x < 0
  · rw [if_pos h1]; exact Nat.le_refl _
  rw [if_neg h1]
  by_cases h2 : x ≤ nI n
  · obtain ⟨m, -, m2, rfl⟩ := rng h1 h2 (A := 0) (B := n) rfl rfl (by decide) (by omega)
    rw [if_pos h2]
    show (nI m).toNatClampNeg ≤ n
    rw [nI_clamp (by omega)]; exact m2
  · rw [if_neg h2]; exact Nat.le_refl _
theorem val1 {t : Nat → Int32} {e p : Nat} {c : Nat} (h : dgP t e p) (hc : 48 ≤ c) (e1 : atP t e p = nI c) : valP t e 1 p 0 = nI (c - 48) := by
  rw [valP, if_pos h, valP, e1]
  show (0 : Int32) * 10 + nI c - nI 48 = _
  rw [Int32.zero_mul, zadd, pk_sub hc]
theorem ln_8 {t : Nat → Int32} {n th : Nat} (hn : n ≤ 80) (h8 : th ≤ 8) : th + lnE t n th ≤ 8 := by
  unfold lnE
  by_cases c : wtG t n th < 0
  · rw [if_pos c]; exact h8
  · rw [if_neg c]
    have h := wS_ok (t := t) hn h8
    rcases cq_ft n (wS t n th).2.1 (wS t n th).1 hn h.1 with ⟨-, -, a, b, d⟩ | ⟨-, -, z⟩
    · exact (h.2 b d a).2.2
    · exact absurd z c
-- ===== ringers, town: the model =====
theorem val_9 (t : Nat → Int32) (e p : Nat) : ∃ y : Nat, y ≤ 9 ∧ valP t e 1 p 0 = nI y := by
  by_cases c : dgP t e p
  · obtain ⟨d, d1, d2, d3⟩ := dg_n c
    exact ⟨d - 48, by omega, val1 c d1 d3⟩
  · exact ⟨0, by omega, by rw [valP, if_neg c]; rfl⟩
section RM
variable {F : Nat} {w : Wd} {t : Nat → Int32} {n : Nat} {T : Tw} {b : Bl} {r p N : Nat}
theorem okTw_new {T' : Tw} {M : List Int32} (ok : okTw T r p N) (nr : NewR T T' M) (hR : okR (T' 5) M.length) : okTw T' r p M.length := by
  obtain ⟨o1, o2, o3, o4, o5, o6, o7, o8, o9, o10, o11⟩ := ok
  obtain ⟨n1, n2, n3⟩ := nr
  have e0 := n1 0 (by omega)
  have e1 := n1 1 (by omega)
  have e2 := n1 2 (by omega)
  have e3 := n1 3 (by omega)
  have e4 := n1 4 (by omega)
  exact ⟨o1, o2, by rw [e4]; exact o3, by rw [e4]; exact o4, n2, hR, fun k hk => by rw [e0, e1]; exact o7 k hk, fun k hk => by rw [e2, e3]; exact o8 k hk, fun k => by rw [e1]; exact o9 k, fun k => by rw [e3]; exact o10 k, by rw [e4]; exact o11⟩
end RM
