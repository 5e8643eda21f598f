section LB
variable {F : Nat} {w : Wd} {a : Nat} {C W : List Int32} {d : Nat} {m : Int32} {g : Nat}
theorem go_close (hF : 100 ≤ F) (h : LsC w a C W d m g true) (hl : C.length + W.length ≤ 40) (hd : 0 < d) (hd2 : d < 100) {x : Int32} {W2 : List Int32} (hW : relW 1 W = x :: W2) : ∃ w2, P_X2_goOn F w a 41 = some (1, w2) ∧ Fr (LawF a) w w2 ∧ LsC w2 a (relC 1 W C) W2 (d - 1) (m &&& (bit1 d ^^^ (-1))) 0 true := by
  have h0 := LsC_g h 0
  have e : P_X2_goOn F w a 41 = bnd (P_X2_close F (sI w a 8 0) a) (fun x7 w6 => gd (isZO x7) (some (x7, w6))) := by
    unfold P_X2_goOn K_X2_goOn_21
    rw [if_pos (by decide), lt_v, if_pos rfl]
  have hWl : 0 < W.length := by
    cases W with
    | nil => exact absurd hW (by simp [relW])
    | cons y V => exact Nat.succ_pos _
  obtain ⟨w1, a1, a2, a3⟩ := v_X2_release hF h0 1 (by decide) hl
  rw [hW] at a3
  have e6 : gI (sI w a 8 0) a 6 = nI d := h0.2.2.2.2.1
  have e5 : gI (sI w a 8 0) a 5 = nI W.length := h0.2.2.1
  have b5 : gI w1 a 5 - 1 = nI W2.length := by rw [a3.2.2.1]; exact nI_pred _
  have b7 : gI w1 a 7 = m := a3.2.2.2.2.2.1
  have b6 : gI w1 a 6 = nI d := a3.2.2.2.2.1
  obtain ⟨d, rfl⟩ : ∃ q, d = q + 1 := ⟨d - 1, by omega⟩
  have ec : P_X2_close F (sI w a 8 0) a = some (1, sI (sI (sI w1 a 5 (nI W2.length)) a 7 (m &&& (bit1 (d + 1) ^^^ (-1)))) a 6 (nI d)) := by
    unfold P_X2_close
    rw [e6, if_neg (nI_nle (by omega) (by omega)), e5, if_pos (show (0 : Int32) < nI W.length from nI_lt (a := 0) (b := W.length) hWl (by omega)), bnv_r (show P_X2_release F (sI w a 8 0) a 1 = _ from a1), b5, lt_v, gIk (by decide), gIk (by decide), b7, b6, lt_v, gIk (by decide), gIk (by decide), b6, nI_pred, lt_v]
    rfl
  rw [e, bnd_r ec]
  have l1 := LsC_pop a3
  have l2 := LsC_m l1 (m &&& (bit1 (d + 1) ^^^ (-1)))
  have l3 := LsC_d l2 d
  exact ⟨_, rfl, (((frS.tr a2 (fun _ h => h) (fun _ h => h)).tr frS (fun _ h => h) (fun _ h => h)).tr frS (fun _ h => h) (fun _ h => h)).tr frS (fun _ h => h) (fun _ h => h), l3⟩
theorem go_closeN {hb : Bool} (h : LsC w a C W 0 m g hb) : ∃ w2, P_X2_goOn F w a 41 = some (0, w2) := by
  have e : P_X2_goOn F w a 41 = bnd (P_X2_close F (sI w a 8 0) a) (fun x7 w6 => gd (isZO x7) (some (x7, w6))) := by
    unfold P_X2_goOn K_X2_goOn_21
    rw [if_pos (by decide), lt_v, if_pos rfl]
  have h0 := LsC_g h 0
  have e6 : gI (sI w a 8 0) a 6 = nI 0 := h0.2.2.2.2.1
  have ec : P_X2_close F (sI w a 8 0) a = some (0, sI w a 8 0) := by
    unfold P_X2_close
    rw [e6, if_pos (show nI 0 ≤ 0 from by decide)]
  rw [e, bnd_r ec]
  exact ⟨_, rfl⟩
theorem go_other (x : Int32) (hd : x < 48 ∨ 57 < x) (h1 : ¬ x = 41) (h2 : ¬ x = 42) (h3 : ¬ x = 43) (h4 : ¬ x = 45) (h5 : ¬ x = 47) (h6 : ¬ x = 60) (h7 : ¬ x = 61) (h8 : ¬ x = 62) : ∃ w2, P_X2_goOn F w a x = some (0, w2) := by
  have hite : ∀ {β : Type} (c : Prop) [Decidable c] (y z u : Option β), (c → y = u) → (¬ c → z = u) → (if c then y else z) = u := fun c _ y z u p q => by
    by_cases hc : c
    · rw [if_pos hc]; exact p hc
    · rw [if_neg hc]; exact q hc
  have e21 : K_X2_goOn_21 F a x w = some (0, sI w a 8 0) := by
    unfold K_X2_goOn_21
    rw [lt_v]
    refine hite _ _ _ _ (fun q => absurd q h1) (fun _ => hite _ _ _ _ (fun q => absurd q h2) (fun _ => hite _ _ _ _ (fun q => absurd q h3) (fun _ => hite _ _ _ _ (fun _ => rfl) (fun _ => hite _ _ _ _ (fun q => absurd q h4) (fun _ => hite _ _ _ _ (fun _ => rfl) (fun _ => hite _ _ _ _ (fun q => absurd q h5) (fun _ => ?_)))))))
    refine hite _ _ _ _ (fun _ => rfl) (fun _ => hite _ _ _ _ (fun _ => rfl) (fun _ => hite _ _ _ _ (fun _ => rfl) (fun _ => hite _ _ _ _ (fun _ => rfl) (fun _ => hite _ _ _ _ (fun _ => rfl) (fun _ => hite _ _ _ _ (fun _ => rfl) (fun _ => hite _ _ _ _ (fun _ => rfl) (fun _ => hite _ _ _ _ (fun _ => rfl) (fun _ => hite _ _ _ _ (fun _ => rfl) (fun _ => hite _ _ _ _ (fun _ => rfl) (fun _ => hite _ _ _ _ (fun _ => rfl) (fun _ => hite _ _ _ _ (fun _ => rfl) (fun _ => ?_))))))))))))
    exact hite _ _ _ _ (fun q => absurd q h6) (fun _ => hite _ _ _ _ (fun q => absurd q h7) (fun _ => hite _ _ _ _ (fun q => absurd q h8) (fun _ => rfl)))
  unfold P_X2_goOn
  rcases hd with q | q
  · rw [if_pos q, e21]; exact ⟨_, rfl⟩
  · by_cases c : x < 48
    · rw [if_pos c, e21]; exact ⟨_, rfl⟩
    · rw [if_neg c, if_pos q, e21]; exact ⟨_, rfl⟩
end LB
