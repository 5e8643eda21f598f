-- ===== a rule's text: the model, as a whole =====
def wU (t : Nat → Int32) (n : Nat) : Rs := if n = 0 then (true, 0, []) else rD t (min n 40) 100 0 0 0 []
def wtU (t : Nat → Int32) (n : Nat) : Int32 := ftP n 40 (wU t n).2.1 ((wU t n).1 = true)
def Rv (a k : Nat) : Prop := Bg a k ∨ Rr a k
theorem v_X11_readsRule {F : Nat} (hF : 100 ≤ F) {w : Wd} {t : Nat → Int32} {n : Nat} (hx : TxM w t n) : ∃ w2, P_X11_readsRule F w = some (wtU t n, w2) ∧ Fm Rv w w2 ∧ gI w2 88 14 = 0 ∧ CoM w2 (wU t n).2.2 ∧ (wU t n).2.1 ≤ min n 40 ∧ (wU t n).2.2.length ≤ 40 := by
  have hn := hx.2.1
  unfold P_X11_readsRule
  obtain ⟨w1, a1, a2, a3, a4, a5⟩ := v_X11_begins F hx 40 (by decide)
  rw [bnd_r (show P_X11_begins F w 40 = _ from a1), lt_v]
  have f2 : Fm (fun a k => a = 88 ∧ k = 23) w1 (sI w1 88 23 0) := Fm.rfl'.sI ⟨rfl, rfl⟩
  have r2 : RdM (sI w1 88 23 0) t (min n 40) 0 := RdM_fr a3 f2 (fun a k h => by omega)
  have c2 : CoM (sI w1 88 23 0) [] := ⟨gIs, trivial⟩
  have fA : Fm Rv w (sI w1 88 23 0) := (a2.imp (fun _ _ h => .inl h)).tr (f2.imp (fun a k h => .inr (.inl ⟨h.1, .inr (.inr h.2)⟩)))
  have k14 : gI (sI w1 88 23 0) 88 14 = 0 := by rw [gIk (by decide)]; exact a4
  have k17 : gI (sI w1 88 23 0) 88 17 = nI 0 := by rw [gIk (by decide)]; exact a5
  unfold wtU wU
  by_cases c : n = 0
  · rw [if_pos (show nI n = 0 from by rw [c]; rfl), if_pos c]
    have ft := v_X11_faultOf F r2 hn (by decide) True
    rw [if_pos trivial] at ft
    unfold K_X11_readsRule_24 K_X11_readsRule_29
    rw [bnd_r (show P_X11_faultOf F (sI w1 88 23 0) (nI n) 40 1 = _ from ft)]
    refine ⟨_, ?_, fA, k14, c2, Nat.zero_le _, Nat.zero_le _⟩
    have : ftP n 40 0 True = ftP n 40 0 (true = true) := by
      unfold ftP
      by_cases z : 0 = min n 40
      · rw [if_pos (show True ∧ 0 = min n 40 from ⟨trivial, z⟩), if_pos (show true = true ∧ 0 = min n 40 from ⟨rfl, z⟩)]
      · rw [if_neg (fun q => z q.2), if_neg (fun q => z q.2)]
    rw [this]
  · rw [if_neg (nI_ne0 (by omega) (by omega)), if_neg c]
    obtain ⟨w3, q1, q2, q3, q4, q5, q6, q7⟩ := (m_reads hF (t := t) (e := min n 40) (by omega) 100).2 0 0 0 (by omega) (by omega) (by omega) (by omega) [] (sI w1 88 23 0) r2 k17 c2 (Nat.le_refl _)
    have ql : (rD t (min n 40) 100 0 0 0 []).2.1 ≤ min n 40 := q3.2.2.2.1
    have q7 : (rD t (min n 40) 100 0 0 0 []).2.2.length + 0 ≤ 0 + (rD t (min n 40) 100 0 0 0 []).2.1 := q7
    have ft := v_X11_faultOf F q3 hn (by decide) ((rD t (min n 40) 100 0 0 0 []).1 = true)
    have eb : (if (if (rD t (min n 40) 100 0 0 0 []).1 = true then (1 : Int32) else 0) = 0 then (0 : Int32) else 1) = if (rD t (min n 40) 100 0 0 0 []).1 = true then 1 else 0 := by
      by_cases z : (rD t (min n 40) 100 0 0 0 []).1 = true
      · rw [if_pos z]; rfl
      · rw [if_neg z]; rfl
    rw [bnd_r (show P_X11_readsRank F (sI w1 88 23 0) 0 = _ from q1), lt_v, eb, bnd_r (show P_X11_faultOf F w3 (nI n) 40 _ = _ from ft)]
    exact ⟨w3, rfl, fA.tr (q2.imp (fun _ _ h => .inr h)), by rw [(q2 88 14 (by unfold Rr; omega)).1]; exact k14, q4, ql, by omega⟩
