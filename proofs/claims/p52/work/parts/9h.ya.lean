-- ===== a rule's text: the class, as a whole =====
def rfC (t : Nat → Int32) (n : Nat) : Int32 := if (wU t n).1 = true ∧ (wU t n).2.1 = min n 40 then (if 40 < n then nI 40 else -1) else nI (wU t n).2.1
theorem rf_wt (t : Nat → Int32) (n : Nat) (hn : n ≤ 80) (hp : (wU t n).2.1 ≤ min n 40) : (rfC t n < 0 ∧ wtU t n = 0 ∧ (wU t n).1 = true ∧ (wU t n).2.1 = min n 40 ∧ n ≤ 40) ∨ (¬ rfC t n < 0 ∧ wtU t n = -1 - rfC t n ∧ wtU t n < 0) := by
  have neg : ∀ j : Nat, j ≤ 40 → (-1 : Int32) - nI j < 0 := by decide +kernel
  unfold rfC wtU ftP
  by_cases c : (wU t n).1 = true ∧ (wU t n).2.1 = min n 40
  · rw [if_pos c, if_pos c]
    by_cases d : 40 < n
    · rw [if_pos d, if_pos d]
      exact .inr ⟨nI_pos (by omega), rfl, neg 40 (by omega)⟩
    · rw [if_neg d, if_neg d]
      exact .inl ⟨by decide, rfl, c.1, c.2, by omega⟩
  · rw [if_neg c, if_neg c]
    exact .inr ⟨nI_pos (by omega), rfl, neg _ (by omega)⟩
section RD
variable {F : Nat} {w : Wd} {a : Nat} {t : Nat → Int32} {n : Nat}
/-- the end of a good reading -/
theorem rdK_yes {C P : List Int32} {m : Int32} {g : Nat} (hF : 100 ≤ F) (hx : TxC w t n) (h : LsC w a C (P ++ []) 0 m g true) (hl : C.length + (P ++ []).length ≤ 40) (hP : ∀ x, x ∈ P → 1 ≤ rkN x) (y : Nat) : ∃ w2, rdK F a (nI y) w = some (if 40 < n then nI 40 else -1, w2) ∧ (n ≤ 40 → LsC w2 a (flC P C) [] 0 m g true) := by
  have hn := hx.2.1
  unfold rdK
  rw [hx.1]
  by_cases c : n ≤ 40
  · have hrel := rel_fl 1 P [] C hP
    obtain ⟨w2, a1, a2, a3⟩ := v_X2_release hF h 1 (by decide) hl
    rw [hrel.1, hrel.2] at a3
    have e123 : K_X2_read_123 F a w = some (-1, w2) := by
      unfold K_X2_read_123
      rw [bnv_r (show P_X2_release F w a 1 = _ from a1)]
    have e9 : gI w a 9 = 1 := h.2.2.2.2.2.2.2
    rw [if_pos (show nI n ≤ 40 from nI_le (a := n) (b := 40) c (by decide)), e9, if_neg (show ¬ (1 : Int32) = 0 from by decide), h.2.2.2.2.1, if_pos (show nI 0 ≤ 0 from by decide), e123, if_neg (show ¬ 40 < n from by omega)]
    refine ⟨w2, ?_, fun _ => a3⟩
    split <;> rfl
  · rw [if_neg (show ¬ nI n ≤ 40 from nI_ge (a := 40) (b := n) (by omega) (by omega)), if_pos (by omega)]
    exact ⟨w, rfl, fun z => absurd z c⟩
theorem v_X2_read (hF : 100 ≤ F) (ha : a = 12 ∨ a = 18) (hx : TxC w t n) (hsg : ∀ k, k < n → ∃ c : Nat, c < 256 ∧ t k = nI c) (hp : (wU t n).2.1 ≤ min n 40) : ∃ w2, P_X2_read F w a = some (rfC t n, w2) ∧ Fr (LawF a) w w2 ∧ (rfC t n < 0 → gI w2 a 1 = nI (wU t n).2.2.length ∧ (wU t n).2.2.length ≤ 40 ∧ (∀ k, k < (wU t n).2.2.length → cde w2 a k = cdL (wU t n).2.2 k) ∧ okL w2 a) := by
  have hn := hx.2.1
  unfold P_X2_read
  simp only [lt_v]
  generalize hw : sI (sI (sI (sI (sI (sI w a 1 0) a 5 0) a 6 0) a 7 0) a 8 0) a 9 0 = w1
  have f1 : Fr (LawF a) w w1 := by rw [← hw]; exact frA (frA (frA (frA (frA (frA Fr.rfl')))))
  have hx1 : TxC w1 t n := LawF_x hx ha f1
  have l1 : LsC w1 a [] [] 0 (nI 0) 0 false := by
    rw [← hw]
    refine ⟨?_, trivial, ?_, trivial, ?_, ?_, ?_, gIs⟩
    · rw [gIk (by decide), gIk (by decide), gIk (by decide), gIk (by decide), gIk (by decide), gIs]; rfl
    · rw [gIk (by decide), gIk (by decide), gIk (by decide), gIk (by decide), gIs]; rfl
    · rw [gIk (by decide), gIk (by decide), gIk (by decide), gIs]; rfl
    · rw [gIk (by decide), gIk (by decide), gIs]; rfl
    · rw [gIk (by decide), gIs]; rfl
  have em : minI (gI w1 1 1) 40 = nI (min n 40) := by
    rw [hx1.1]; exact minI_n (a := n) (b := 40) (by omega) (by decide)
  rw [em]
  show ∃ w2, L_X2_read_42 F a (nI (min n 40)) (rdK F a (nI (min n 40))) F w1 (nI 0) = some (rfC t n, w2) ∧ _
  have hsg2 : ∀ q, q < min n 40 → ∃ c : Nat, c < 256 ∧ atP t (min n 40) q = nI c := fun q hq => by
    obtain ⟨c, c1, c2⟩ := hsg q (by omega)
    exact ⟨c, c1, by rw [show atP t (min n 40) q = t q from if_pos hq]; exact c2⟩
  have frm : ∀ v w2, L_X2_read_42 F a (nI (min n 40)) (rdK F a (nI (min n 40))) F w1 (nI 0) = some (v, w2) → Fr (LawF a) w w2 := fun v w2 e => f1.tr (ff_42 hF ha hx1 (by omega) hsg2 _ F 0 w1 (Nat.zero_le _) Fr.rfl' _ e) (fun _ h => h) (fun _ h => h)
  -- the words, once they lie there
  have fin : ∀ (w3 : Wd) (Q : List Int32) (m : Int32) (g : Nat) (hb : Bool), LsC w3 a Q [] 0 m g hb → Q.map trc = (wU t n).2.2 → Q.length ≤ 40 → (wU t n).1 = true → gI w3 a 1 = nI (wU t n).2.2.length ∧ (wU t n).2.2.length ≤ 40 ∧ (∀ k, k < (wU t n).2.2.length → cde w3 a k = cdL (wU t n).2.2 k) ∧ okL w3 a := fun w3 Q m g hb h hQ hl hok => by
    have el : (wU t n).2.2.length = Q.length := by rw [← hQ, List.length_map]
    have eN : gI w3 a 1 = nI (wU t n).2.2.length := by rw [el]; exact h.1
    have ec : ∀ k, k < (wU t n).2.2.length → gI w3 (a + 1) k = cdL Q k := fun k hk => LsR_cd h.2.1 k (by omega)
    have ed : ∀ k, k < (wU t n).2.2.length → cde w3 a k = cdL (wU t n).2.2 k := fun k hk => by
      unfold cde
      rw [eN, if_pos (nI_lt hk (by omega)), ec k hk, ← hQ, cdL_map trc Q k (by omega)]
    have oR := okSw_R _ (wU_ok hok) (by omega)
    refine ⟨eN, by omega, ed, (wU t n).2.2.length, eN, okR_ext (fun k hk => (ed k hk).symm) oR, fun k hk => okc_of ?_⟩
    rw [ec k hk, ← cdL_map trc Q k (by omega), hQ]
    exact oR.2.1 k hk
  have good : ∀ v w2, L_X2_read_42 F a (nI (min n 40)) (rdK F a (nI (min n 40))) F w1 (nI 0) = some (v, w2) → v = rfC t n → (rfC t n < 0 → gI w2 a 1 = nI (wU t n).2.2.length ∧ (wU t n).2.2.length ≤ 40 ∧ (∀ k, k < (wU t n).2.2.length → cde w2 a k = cdL (wU t n).2.2 k) ∧ okL w2 a) → ∃ w2, L_X2_read_42 F a (nI (min n 40)) (rdK F a (nI (min n 40))) F w1 (nI 0) = some (rfC t n, w2) ∧ Fr (LawF a) w w2 ∧ (rfC t n < 0 → gI w2 a 1 = nI (wU t n).2.2.length ∧ (wU t n).2.2.length ≤ 40 ∧ (∀ k, k < (wU t n).2.2.length → cde w2 a k = cdL (wU t n).2.2 k) ∧ okL w2 a) := fun v w2 e1 e2 e3 => ⟨w2, by rw [← e2]; exact e1, frm v w2 e1, e3⟩
  by_cases n0 : n = 0
  · subst n0
    have eU : wU t 0 = (true, 0, []) := by unfold wU; rw [if_pos rfl]
    obtain ⟨f, rfl⟩ : ∃ q, F = q + 1 := ⟨F - 1, by omega⟩
    have eL := rd_end (F := f + 1) (a := a) (w := w1) (rdK (f + 1) a (nI (min 0 40))) f (min 0 40)
    obtain ⟨w2, a1, a2, a3⟩ := v_X2_release hF l1 1 (by decide) (Nat.zero_le _)
    have eK : rdK (f + 1) a (nI (min 0 40)) w1 = some (-1, w2) := by
      unfold rdK K_X2_read_123
      rw [hx1.1, if_pos (show nI 0 ≤ 40 from by decide), if_pos (show nI (min 0 40) ≤ 0 from by decide), bnv_r (show P_X2_release (f + 1) w1 a 1 = _ from a1)]
    have er : rfC t 0 = -1 := by unfold rfC; rw [eU, if_pos ⟨rfl, rfl⟩, if_neg (by omega)]
    refine good _ w2 (Eq.trans eL eK) er.symm (fun _ => fin w2 [] _ _ _ a3 (by rw [eU]; rfl) (Nat.zero_le _) (by rw [eU]))
  · have eU : wU t n = rD t (min n 40) 100 0 0 0 [] := by unfold wU; rw [if_neg n0]
    have sm := sm_all (F := F) hF ha (t := t) (n := n) (e := min n 40) (by omega) (by omega) (rdK F a (nI (min n 40))) (fun w C W d m g hb z1 z2 z3 z4 => rdK_no z1 z2 (by omega) z3 z4) hsg2 100 0 0 0 [] 0 w1 [] 0 [] (by omega) (by omega) (Nat.zero_le _) (by omega) hx1 l1 rfl (Nat.le_refl _) (fun _ x W' z => absurd z (by simp)) (fun _ => by decide) (fun j _ z => (by decide : ∀ j : Nat, j < 8 → bt (nI 0) j = 0) j z) (by omega)
    rw [← eU] at sm
    by_cases hok : (wU t n).1 = true
    · obtain ⟨w2, C, P, s2, g, b1, b2, b3, b4, b5, b6, b7, b8, b9, b10, b11, b12, b13, b14, b15, b16⟩ := sm.1 hok
      have hx2 : TxC w2 t n := LawF_x hx1 ha b4
      have st := b3 (F - (wU t n).2.1)
      rw [show F - (wU t n).2.1 + ((wU t n).2.1 - 0) = F from by omega] at st
      have hl40 : C.length + (P ++ []).length ≤ 40 := by omega
      by_cases ee : (wU t n).2.1 = min n 40
      · obtain ⟨f, hf⟩ : ∃ q, F - (wU t n).2.1 = q + 1 := ⟨F - (wU t n).2.1 - 1, by omega⟩
        obtain ⟨w3, k1, k2⟩ := rdK_yes (F := F) hF hx2 b5 hl40 (fun x hx => by have := b6 x hx; omega) (min n 40)
        rw [hf, ee, rd_end, k1] at st
        have er : rfC t n = if 40 < n then nI 40 else -1 := by unfold rfC; rw [if_pos ⟨hok, ee⟩]
        refine good _ w3 st er.symm (fun z => ?_)
        have n40 : n ≤ 40 := by
          by_cases y : n ≤ 40
          · exact y
          · rw [er, if_pos (by omega)] at z; exact absurd z (nI_pos (by omega))
        refine fin w3 _ _ _ _ (k2 n40) b7 ?_ hok
        rw [fl_len]
        have := hl40
        rw [List.length_append] at this
        simp at this
        omega
      · have hq : (wU t n).2.1 < min n 40 := by omega
        obtain ⟨f, hf⟩ : ∃ q, F - (wU t n).2.1 = q + 1 := ⟨F - (wU t n).2.1 - 1, by omega⟩
        obtain ⟨w3, k1⟩ := rd_refuse (F := F) (n := n) hx2 (e := min n 40) (by omega) hsg2 b5 (by omega) (by omega) hF b10 (rdK F a (nI (min n 40))) f (wU t n).2.1 hq b9 (b15 (by omega)) (b14 (by omega)) (b16 rfl) (fun _ => rfl)
        rw [hf, k1] at st
        have er : rfC t n = nI (wU t n).2.1 := by unfold rfC; rw [if_neg (fun z => ee z.2)]
        exact good _ w3 st er.symm (fun z => absurd z (by rw [er]; exact nI_pos (by omega)))
    · obtain ⟨w2, k1⟩ := sm.2 hok F (by omega)
      have er : rfC t n = nI (wU t n).2.1 := by unfold rfC; rw [if_neg (fun z => hok z.1)]
      exact good _ w2 k1 er.symm (fun z => absurd z (by rw [er]; exact nI_pos (by omega)))
end RD
