-- ===== a watch =====
def wtF (t : Nat → Int32) (n : Nat) : Int32 := ftP n 60 (wR t n).2.1 ((wR t n).1 = true)
def wtP (T : Tw) (r : Nat) (b : Bl) (t : Nat → Int32) (n : Nat) : Bool × Nat × Bl := rnP T r t (min n 60) (wR t n).2.2 0 b
def qWatch (T : Tw) (r : Nat) (b : Bl) (t : Nat → Int32) (n : Nat) : Ans := if wtF t n < 0 then (wtF t n, none) else (nI (wtP T r b t n).2.1, some [i64 (if (wtP T r b t n).1 = true then 1 else 0), i64 ((wtP T r b t n).2.2 13 - b 13)])
def bWatch (T : Tw) (r : Nat) (b : Bl) (t : Nat → Int32) (n : Nat) : Bl := if wtF t n < 0 then b else (wtP T r b t n).2.2
def uWatch (T : Tw) (r : Nat) (b : Bl) (t : Nat → Int32) (n : Nat) (u : Us) : Us := if wtF t n < 0 then u else if (wtP T r b t n).2.1 = 0 then u else psh b u
theorem wP_le (t : Nat → Int32) (e : Nat) : ∀ m p, p ≤ e → (wP t e m p).2.1 ≤ e ∧ (e < p + m → 2 * (wP t e m p).2.2.length + p ≤ e + 2) := by
  intro m
  induction m with
  | zero => intro p h; exact ⟨h, fun h2 => by omega⟩
  | succ m ih =>
    intro p h
    have hl := ra_le (t := t) h
    by_cases c : raOk t e p ∧ atP t e (raAt t e p) = 59
    · have hra := ra_ok h c.1
      have hlt : raAt t e p < e := by
        by_cases z : raAt t e p < e
        · exact z
        · have := c.2; rw [show atP t e (raAt t e p) = -1 from if_neg z] at this; exact absurd this (by decide)
      rw [wP_yes c]
      have := ih (raAt t e p + 1) hlt
      exact ⟨this.1, fun h2 => by
        have q := this.2 (by omega)
        show 2 * ((wP t e m (raAt t e p + 1)).2.2.length + 1) + p ≤ e + 2
        omega⟩
    · rw [wP_no c]
      exact ⟨hl.2, fun _ => by show 2 * 1 + p ≤ e + 2; omega⟩
theorem wR_le (t : Nat → Int32) (n : Nat) : (wR t n).2.1 ≤ min n 60 ∧ (wR t n).2.2.length ≤ 31 := by
  unfold wR
  by_cases c : n = 0
  · rw [if_pos c]; exact ⟨Nat.zero_le _, Nat.zero_le _⟩
  · rw [if_neg c]
    have := wP_le t (min n 60) 61 0 (by omega)
    exact ⟨this.1, by have := this.2 (by omega); omega⟩
/-- the two ways to tell a fault -/
theorem cf_ft (n a : Nat) (b : Bool) (hn : n ≤ 80) (ha : a ≤ min n 60) : (cfP n (min n 60) a b < 0 ∧ ¬ ftP n 60 a (b = true) < 0 ∧ n ≤ 60 ∧ b = true ∧ a = n) ∨ (¬ cfP n (min n 60) a b < 0 ∧ -1 - cfP n (min n 60) a b = ftP n 60 a (b = true) ∧ ftP n 60 a (b = true) < 0) := by
  have neg : ∀ k : Nat, k ≤ 80 → -1 - nI k < 0 := by decide +kernel
  unfold cfP ftP
  by_cases c : b = true ∧ a = min n 60
  · rw [if_pos c, if_pos c]
    by_cases d : 60 < n
    · rw [if_pos d, if_pos d]; exact .inr ⟨by decide, rfl, by decide⟩
    · rw [if_neg d, if_neg d]; exact .inl ⟨by decide, by decide, by omega, c.1, by omega⟩
  · rw [if_neg c, if_neg c]
    exact .inr ⟨nI_pos (by omega), rfl, neg a (by omega)⟩
def WPc (b : Nat) : Prop := MPt b ∨ b = 1
theorem v_X10_watch {F : Nat} (hF : 1000 ≤ F) {w : Wd} (okt : okT w 5) {r : Nat} (hr : r ≤ 8) (er : gI w 6 2 = nI r) (hq : okRq (bC w 23) r) {u : Us} (h : PsC w u) {t : Nat → Int32} {n : Nat} (hx : TxC w t n) : ∃ w2, P_X10_watch F w = some ((qWatch (tC w 5) r (bC w 23) t n).1, w2) ∧ Fr WPc w w2 ∧ bC w2 23 = bWatch (tC w 5) r (bC w 23) t n ∧ PsC w2 (uWatch (tC w 5) r (bC w 23) t n u) ∧ tqC (qWatch (tC w 5) r (bC w 23) t n).2 w w2 ∧ TxC w2 t 0 := by
  have hn := hx.2.1
  have hwl := wR_le t n
  have nx : ∀ v : Wd, gI v 1 1 = 0 → TxC v t 0 := fun v hv => ⟨hv, by omega, fun k hk => absurd hk (Nat.not_lt_zero _)⟩
  have f1 : ∀ v : Wd, Fr (fun b => b = 1) v (sI v 1 1 0) := fun v => Fr.ofI
  unfold P_X10_watch
  rw [bnd_r (v_X0_faultIn (by omega) hx)]
  rcases cf_ft n (wR t n).2.1 (wR t n).1 hn hwl.1 with ⟨c1, c2, c3, c4, c5⟩ | ⟨c1, c2, c3⟩
  · have e60 : min n 60 = n := by omega
    have c2 : ¬ wtF t n < 0 := c2
    rw [if_pos c1]
    unfold qWatch bWatch uWatch
    rw [if_neg c2, if_neg c2, if_neg c2]
    obtain ⟨w1, a1, a2, a3, a4⟩ := ahead (F := F) (by omega) w
    have hK : Kp (fun b => b = 27 ∨ b = 28) := fun b hb => by omega
    have okt1 := okT_fr hK a2 okt
    have eT1 := tC_fr hK a2 okt
    have er1 : gI w1 6 2 = nI r := by rw [(a2 6 (by omega)).1]; exact er
    have hx1 : TxC w1 t n := TxC_fr hx a2 (by omega) (by omega)
    have run : ∃ w2, L_X10_watch_42 F (fun w x8 x9 => K_X10_watch_103 F w x8 x9) F w1 0 0 0 = K_X10_watch_103 F w2 (nI (wtP (tC w 5) r (bC w 23) t n).2.1) (if (wtP (tC w 5) r (bC w 23) t n).1 = true then 1 else 0) ∧ Fr P23 w1 w2 ∧ bC w2 23 = (wtP (tC w 5) r (bC w 23) t n).2.2 := by
      by_cases c0 : n = 0
      · subst c0
        obtain ⟨f, hf⟩ : ∃ q, F = q + 1 := ⟨F - 1, by omega⟩
        have hz : ∀ G, L_X10_watch_42 G (fun w x8 x9 => K_X10_watch_103 F w x8 x9) F w1 0 0 0 = K_X10_watch_103 F w1 0 0 := fun G => by
          rw [hf, L_X10_watch_42, hx1.1, if_pos (show nI 0 ≤ 0 from by decide)]
        exact ⟨w1, hz F, Fr.rfl', a4⟩
      · have ew : wR t n = wP t n 61 0 := by unfold wR; rw [if_neg c0, e60]
        rw [ew] at c4 c5
        obtain ⟨w2, b1, b2, b3⟩ := l_X10_watch hF (fun w x8 x9 => K_X10_watch_103 F w x8 x9) (T := tC w 5) hr 61 0 F w1 0 (by omega) (by omega) (by omega) (.inl rfl) c4 c5 hx1 okt1 eT1 er1 (by rw [a4]; exact hq)
        rw [a4] at b1 b3
        have ewt : wtP (tC w 5) r (bC w 23) t n = rnP (tC w 5) r t n (wP t n 61 0).2.2 0 (bC w 23) := by unfold wtP; rw [ew, e60]
        rw [ewt]
        exact ⟨w2, b1, b2, b3⟩
    obtain ⟨w2, b1, b2, b3⟩ := run
    have hd : (wtP (tC w 5) r (bC w 23) t n).2.1 ≤ 31 := by
      have := (rn_len (tC w 5) r t (min n 60) (wR t n).2.2 0 (bC w 23)).1
      unfold wtP; omega
    have p2 : PsC w2 u := PsC_fr (PsC_fr h a2 (fun b hb => by unfold PaC; omega)) b2 (fun b hb => by unfold PaC; unfold P23 Scr at hb; omega)
    have a27 : ∀ v, Fr (fun b => ¬ (b = 27 ∨ b = 28)) w1 v → bC v 27 = bC w 23 := fun v hv => by rw [bC_fr hv (by omega) (by omega)]; exact a3
    have p27 : bC w2 27 = bC w 23 := a27 w2 (b2.imp (fun b hb => by unfold P23 Scr at hb; omega))
    have fin : ∀ (v : Wd) (x : Int32) (uu : Us), Fr WPc w v → bC v 23 = (wtP (tC w 5) r (bC w 23) t n).2.2 → bC v 27 = bC w 23 → PsC v uu → gI v 1 1 = 0 → ∃ w3, K_X10_watch_126 F v x (if (wtP (tC w 5) r (bC w 23) t n).1 = true then 1 else 0) = some (x, w3) ∧ Fr WPc w w3 ∧ bC w3 23 = (wtP (tC w 5) r (bC w 23) t n).2.2 ∧ PsC w3 uu ∧ tqC (some [i64 (if (wtP (tC w 5) r (bC w 23) t n).1 = true then 1 else 0), i64 ((wtP (tC w 5) r (bC w 23) t n).2.2 13 - bC w 23 13)]) w w3 ∧ TxC w3 t 0 := by
      intro v x uu g1 g2 g3 g4 g5
      unfold K_X10_watch_126
      have k6 : gI v 23 6 = (wtP (tC w 5) r (bC w 23) t n).2.2 13 := by rw [← g2]; rfl
      have k27 : gI v 27 6 = bC w 23 13 := by rw [← g3]; rfl
      have ei : (if (if (wtP (tC w 5) r (bC w 23) t n).1 = true then (1 : Int32) else 0) = 0 then (0 : Int64) else 1) = i64 (if (wtP (tC w 5) r (bC w 23) t n).1 = true then 1 else 0) := by
        by_cases z : (wtP (tC w 5) r (bC w 23) t n).1 = true
        · rw [if_pos z]; rfl
        · rw [if_neg z]; rfl
      rw [lt_v, k6, k27, ei]
      obtain ⟨w3, d1, d2, d3⟩ := v_X10_tell2 F v (i64 (if (wtP (tC w 5) r (bC w 23) t n).1 = true then 1 else 0)) (Int32.toInt64 ((wtP (tC w 5) r (bC w 23) t n).2.2 13 - bC w 23 13))
      rw [bnv_r d1]
      exact ⟨w3, rfl, g1.tr d2 (fun _ h => h) (fun b hb => .inl (.inr hb)), by rw [bC_fr d2 (by omega) (by omega)]; exact g2, PsC_fr g4 d2 (fun b hb => by unfold PaC; omega), d3, nx w3 (by rw [(d2 1 (by omega)).1]; exact g5)⟩
    rw [bnv_r a1, b1]
    unfold K_X10_watch_103
    rw [lt_v]
    have q2 : Fr WPc w (sI w2 1 1 0) := ((a2.tr b2 (r := WPc) (fun b hb => .inl (.inl (by unfold MPc; omega))) (fun b hb => .inl (.inl (by unfold MPc; unfold P23 at hb; rcases hb with q | q | q; exact .inl q; exact .inr (.inl q); exact .inr (.inr (.inr (.inr (.inr q)))))))).tr (f1 w2) (fun _ h => h) (fun b hb => .inr hb))
    have q3 : bC (sI w2 1 1 0) 23 = (wtP (tC w 5) r (bC w 23) t n).2.2 := by rw [bC_fr (f1 w2) (by omega) (by omega)]; exact b3
    have q4 : bC (sI w2 1 1 0) 27 = bC w 23 := by rw [bC_fr (f1 w2) (by omega) (by omega)]; exact p27
    have q5 : PsC (sI w2 1 1 0) u := PsC_fr p2 (f1 w2) (fun b hb => by unfold PaC; omega)
    by_cases c0 : (wtP (tC w 5) r (bC w 23) t n).2.1 = 0
    · rw [if_pos c0, if_pos (show nI (wtP (tC w 5) r (bC w 23) t n).2.1 ≤ 0 from by rw [c0]; decide)]
      exact fin _ _ u q2 q3 q4 q5 gIs
    · rw [if_neg c0, if_neg (nI_nle (by omega) (by omega))]
      obtain ⟨w3, d1, d2, d3⟩ := v_X4_push (F := F) (by omega) q5 27 rfl
      rw [q4] at d3
      rw [bnv_r d1]
      exact fin w3 _ (psh (bC w 23) u) (q2.tr d2 (fun _ h => h) (fun b hb => .inl (.inl (by unfold MPc; exact .inr (.inr (.inr (.inr (.inl hb)))))))) (by rw [bC_fr d2 (by unfold PaC; omega) (by unfold PaC; omega)]; exact q3) (by rw [bC_fr d2 (by unfold PaC; omega) (by unfold PaC; omega)]; exact q4) d3 (by rw [(d2 1 (by unfold PaC; omega)).1]; exact gIs)
  · have c3 : wtF t n < 0 := c3
    have c2 : -1 - cfP n (min n 60) (wR t n).2.1 (wR t n).1 = wtF t n := c2
    rw [if_neg c1, lt_v, c2]
    unfold qWatch bWatch uWatch
    rw [if_pos c3, if_pos c3, if_pos c3]
    exact ⟨_, rfl, (f1 w).imp (fun b hb => .inr hb), bC_fr (f1 w) (by omega) (by omega), PsC_fr h (f1 w) (fun b hb => by unfold PaC; omega), ⟨fun k => gIa (by decide), fun k => rfl⟩, nx _ gIs⟩

