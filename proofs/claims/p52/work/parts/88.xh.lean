-- ===== ringers, town: the class =====
def fsP (t : Nat → Int32) (e i : Nat) : Int32 := valP t e 1 (3 * i) 0
def scP (t : Nat → Int32) (e i : Nat) : Int32 := valP t e 1 (3 * i + 1) 0
def AdC (w w2 : Wd) (a th ls : Nat) (f g : Nat → Int32) : Prop := Fr (fun b => b = a ∨ b = a + 1 ∨ b = a + 2) w w2 ∧ (∀ k, gI w2 a k = if k = 2 then nI (th + ls) else gI w a k) ∧ (∀ k, gR w2 a k = gR w a k) ∧ (∀ k, gI w2 (a + 1) k = if th ≤ k ∧ k < th + ls then f (k - th) else gI w (a + 1) k) ∧ (∀ k, gI w2 (a + 2) k = if th ≤ k ∧ k < th + ls then g (k - th) else gI w (a + 2) k)
theorem l_X5_admit {F : Nat} (hF : 100 ≤ F) {w : Wd} {t : Nat → Int32} {n a th q : Nat} (ha : a = 6 ∨ a = 9) (hx : TxC w t n) (hq : n ≤ 3 * q ∧ (∀ j, j < q → 3 * j < n)) (h8 : th + q ≤ 8) : ∀ m j, j + m = q → ∀ f, m < f → ∀ v, AdC w v a th j (fsP t n) (scP t n) → ∃ w2, L_X5_admit_4 F a (fun w x4 => some (x4, w)) f v (nI j) (nI (3 * j)) = some (nI q, w2) ∧ AdC w w2 a th q (fsP t n) (scP t n) := by
  intro m
  have hn := hx.2.1
  induction m with
  | zero =>
    intro j hj f hf v g
    obtain ⟨f, rfl⟩ : ∃ z, f = z + 1 := ⟨f - 1, by omega⟩
    obtain rfl : j = q := by omega
    rw [L_X5_admit_4, (g.1 1 (by omega)).1, hx.1, if_pos (nI_le (by omega) (by omega))]
    exact ⟨v, rfl, g⟩
  | succ m ih =>
    intro j hj f hf v g
    obtain ⟨f, rfl⟩ : ∃ z, f = z + 1 := ⟨f - 1, by omega⟩
    have h3 := hq.2 j (by omega)
    have hv : TxC v t n := TxC_fr hx g.1 (by omega) (by omega)
    have e2 : gI v a 2 = nI (th + j) := by rw [g.2.1 2, if_pos rfl]
    have n1 := v_X8_number (F := F) hF hv (3 * j) 1 (by omega) (by omega)
    have hin : inB (nI (th + j)) 8 = true := inB_n (by omega) (by omega)
    rw [L_X5_admit_4, (g.1 1 (by omega)).1, hx.1, if_neg (nI_ge h3 (by omega)), e2, if_neg (nI_pos (by omega)), if_neg (n8gt (by omega)), bnd_r (show P_X8_number F v (nI (3 * j)) 1 = _ from n1), gd_t hin, nI_clamp (by omega), lt_v]
    have f1 : Fr (fun b => b = a ∨ b = a + 1 ∨ b = a + 2) v (sI v (a + 1) (th + j) (valP t n 1 (3 * j) 0)) := Fr.ofI.imp (fun b hb => by omega)
    have hv1 : TxC (sI v (a + 1) (th + j) (valP t n 1 (3 * j) 0)) t n := TxC_fr hv f1 (by omega) (by omega)
    have n2 := v_X8_number (F := F) hF hv1 (3 * j + 1) 1 (by omega) (by omega)
    rw [nI_1, bnd_r (show P_X8_number F _ (nI (3 * j + 1)) 1 = _ from n2), gIa (by omega), e2, gd_t hin, nI_clamp (by omega), lt_v, gIa (by omega), gIa (by omega), e2, nI_1, lt_v, lt_v, lt_v, show nI (3 * j) + 3 = nI (3 * (j + 1)) from nI_add (3 * j) 3, nI_1 j]
    refine ih (j + 1) (by omega) f (by omega) _ ⟨?_, fun k => ?_, fun k => ?_, fun k => ?_, fun k => ?_⟩
    · exact ((g.1.tr f1 (fun _ h => h) (fun _ h => h)).tr (Fr.ofI (a := a + 2)) (fun _ h => h) (fun b hb => by omega)).tr (Fr.ofI (a := a)) (fun _ h => h) (fun b hb => by omega)
    · by_cases c : k = 2
      · rw [c, gIs, if_pos rfl]; rfl
      · rw [gIk c, gIa (by omega), gIa (by omega), g.2.1 k, if_neg c, if_neg c]
    · exact g.2.2.1 k
    · rw [gIa (by omega), gIa (by omega)]
      by_cases c : k = th + j
      · rw [c, gIs, if_pos (by omega), show th + j - th = j from by omega]; rfl
      · rw [gIk c, g.2.2.2.1 k]
        by_cases d : th ≤ k ∧ k < th + j
        · rw [if_pos d, if_pos (by omega)]
        · rw [if_neg d, if_neg (by omega)]
    · rw [gIa (by omega)]
      by_cases c : k = th + j
      · rw [c, gIs, if_pos (by omega), show th + j - th = j from by omega]; rfl
      · rw [gIk c, gIa (by omega), g.2.2.2.2 k]
        by_cases d : th ≤ k ∧ k < th + j
        · rw [if_pos d, if_pos (by omega)]
        · rw [if_neg d, if_neg (by omega)]
theorem v_X5_admit {F : Nat} (hF : 100 ≤ F) {w : Wd} {t : Nat → Int32} {n a th q : Nat} (ha : a = 6 ∨ a = 9) (hx : TxC w t n) (ht : gI w a 2 = nI th) (hq : n ≤ 3 * q ∧ (∀ j, j < q → 3 * j < n)) (h8 : th + q ≤ 8) : ∃ w2, P_X5_admit F w a = some (nI q, w2) ∧ AdC w w2 a th q (fsP t n) (scP t n) := by
  have hn := hx.2.1
  exact l_X5_admit hF ha hx hq h8 q 0 (by omega) F (by omega) w ⟨Fr.rfl', fun k => by
    by_cases c : k = 2
    · rw [c, if_pos rfl]; exact ht
    · rw [if_neg c], fun k => rfl, fun k => by rw [if_neg (by omega)], fun k => by rw [if_neg (by omega)]⟩
/-- so many more of them -/
def addT (T : Tw) (c th ls : Nat) (f g : Nat → Int32) : Tw := fun x k => if x = c then (if th ≤ k ∧ k < th + ls then f (k - th) else T x k) else if x = c + 1 then (if th ≤ k ∧ k < th + ls then g (k - th) else T x k) else if x = 4 ∧ k = c / 2 then nI (th + ls) else T x k
theorem okL_eq {w w2 : Wd} {x : Nat} (h1 : ∀ k, gI w2 x k = gI w x k) (h2 : ∀ k, gI w2 (x + 1) k = gI w (x + 1) k) (h : okL w x) : okL w2 x ∧ cde w2 x = cde w x := by
  have ec : cde w2 x = cde w x := by
    funext k
    unfold cde
    rw [h1, h2]
  obtain ⟨N, a1, a2, a3⟩ := h
  exact ⟨⟨N, by rw [h1]; exact a1, by rw [ec]; exact a2, fun k hk => by rw [h2]; exact a3 k hk⟩, ec⟩
theorem rol_add {w w2 : Wd} {a c th ls : Nat} {f : Nat → Int32} (hc : c = a + 1 ∨ c = a + 2) (h8 : th + ls ≤ 8) (ht : gI w a 2 = nI th) (h2 : gI w2 a 2 = nI (th + ls)) (hf : ∀ k, gI w2 c k = if th ≤ k ∧ k < th + ls then f (k - th) else gI w c k) (k : Nat) : rol w2 a c k = if th ≤ k ∧ k < th + ls then f (k - th) else rol w a c k := by
  unfold rol
  rw [h2, ht]
  by_cases c8 : k < 8
  · rw [if_pos c8, hf k, if_pos c8]
    by_cases d : th ≤ k ∧ k < th + ls
    · rw [if_pos d, if_pos d, if_neg (nI_ge (by omega) (by omega))]
    · rw [if_neg d, if_neg d]
      by_cases e : th ≤ k
      · rw [if_pos (nI_le (by omega) (by omega)), if_pos (nI_le e (by omega))]
      · rw [if_neg (nI_ge (by omega) (by omega)), if_neg (nI_ge (by omega) (by omega))]
  · rw [if_neg c8, if_neg (show ¬ (th ≤ k ∧ k < th + ls) from by omega), if_neg c8, ite_self, ite_self]
theorem tC_add {w w2 : Wd} {a th ls : Nat} {f g : Nat → Int32} (ha : a = 6 ∨ a = 9) (ok : okT w 5) (ht : gI w a 2 = nI th) (h8 : th + ls ≤ 8) (h : AdC w w2 a th ls f g) : okT w2 5 ∧ tC w2 5 = addT (tC w 5) (if a = 6 then 0 else 2) th ls f g := by
  obtain ⟨h1, h2, h3, h4, h5⟩ := h
  have h12 := isX2_or ok.2.1
  have g5 : ∀ b, ¬ (b = a ∨ b = a + 1 ∨ b = a + 2) → ∀ k, gI w2 b k = gI w b k := fun b hb k => (h1 b hb).1 k
  have r5 : gR w2 5 2 = gR w 5 2 := (h1 5 (by omega)).2.2 2
  have hL := okL_eq (w := w) (w2 := w2) (x := gR w 5 2) (fun k => g5 _ (by omega) k) (fun k => g5 _ (by omega) k) ok.2.2
  have e2 : gI w2 a 2 = nI (th + ls) := by rw [h2 2, if_pos rfl]
  have ra := rol_add (w := w) (w2 := w2) (c := a + 1) (.inl rfl) h8 ht e2 h4
  have rb := rol_add (w := w) (w2 := w2) (c := a + 2) (.inr rfl) h8 ht e2 h5
  have ro : ∀ a' c k, ¬ (a' = a ∨ a' = a + 1 ∨ a' = a + 2) → ¬ (c = a ∨ c = a + 1 ∨ c = a + 2) → rol w2 a' c k = rol w a' c k := fun a' c k z1 z2 => by unfold rol; rw [g5 _ z1, g5 _ z2]
  refine ⟨⟨.inl rfl, by rw [r5]; exact ok.2.1, by rw [r5]; exact hL.1⟩, ?_⟩
  funext x k
  have k5 : ∀ j, gI w2 5 j = gI w 5 j := fun j => g5 5 (by omega) j
  have t5 : tC w2 5 5 k = tC w 5 5 k := by
    show cde w2 (gR w2 5 2) k = cde w (gR w 5 2) k
    rw [r5, hL.2]
  have t6 : tC w2 5 6 k = tC w 5 6 k := by
    show gI w2 (gR w2 5 2) 1 = gI w (gR w 5 2) 1
    rw [r5, g5 _ (by omega)]
  have t7 : ∀ v x, 7 ≤ x → tC v 5 x k = 0 := fun v x hx => by
    unfold tC
    split
    · omega
    · omega
    · omega
    · omega
    · omega
    · omega
    · omega
    · rfl
  have t45 : ∀ v k, 5 ≤ k → tC v 5 4 k = 0 := fun v k hk => by
    show (match k with
    | 0 => gI v 6 2
    | 1 => gI v 9 2
    | 2 => gI v 5 3
    | 3 => gI v 5 4
    | 4 => gI v 5 5
    | _ => 0) = 0
    split
    · omega
    · omega
    · omega
    · omega
    · omega
    · rfl
  have z0 : tC w2 5 4 0 = gI w2 6 2 := rfl
  have z1 : tC w2 5 4 1 = gI w2 9 2 := rfl
  have z2 : tC w2 5 4 2 = tC w 5 4 2 := k5 3
  have z3 : tC w2 5 4 3 = tC w 5 4 3 := k5 4
  have z4 : tC w2 5 4 4 = tC w 5 4 4 := k5 5
  have q0 : tC w2 5 0 k = rol w2 6 7 k := rfl
  have q1 : tC w2 5 1 k = rol w2 6 8 k := rfl
  have q2 : tC w2 5 2 k = rol w2 9 10 k := rfl
  have q3 : tC w2 5 3 k = rol w2 9 11 k := rfl
  have r0 : tC w 5 0 k = rol w 6 7 k := rfl
  have r1 : tC w 5 1 k = rol w 6 8 k := rfl
  have r2 : tC w 5 2 k = rol w 9 10 k := rfl
  have r3 : tC w 5 3 k = rol w 9 11 k := rfl
  unfold addT
  rcases ha with rfl | rfl
  · rw [if_pos (show (6 : Nat) = 6 from rfl)]
    rcases (show x = 0 ∨ x = 1 ∨ x = 2 ∨ x = 3 ∨ x = 4 ∨ x = 5 ∨ x = 6 ∨ 7 ≤ x by omega) with rfl | rfl | rfl | rfl | rfl | rfl | rfl | hx
    · rw [if_pos (show (0 : Nat) = 0 from rfl), q0, r0]; exact ra k
    · rw [if_neg (show ¬ (1 : Nat) = 0 from by decide), if_pos (show (1 : Nat) = 0 + 1 from rfl), q1, r1]; exact rb k
    · rw [if_neg (by omega), if_neg (by omega), if_neg (by omega), q2, r2]; exact ro 9 10 k (by omega) (by omega)
    · rw [if_neg (by omega), if_neg (by omega), if_neg (by omega), q3, r3]; exact ro 9 11 k (by omega) (by omega)
    · rw [if_neg (by omega), if_neg (by omega)]
      rcases (show k = 0 ∨ k = 1 ∨ k = 2 ∨ k = 3 ∨ k = 4 ∨ 5 ≤ k by omega) with rfl | rfl | rfl | rfl | rfl | hk
      · rw [if_pos (show (4 : Nat) = 4 ∧ (0 : Nat) = 0 / 2 from by decide), z0]; exact e2
      · rw [if_neg (by omega), z1]; exact g5 9 (by omega) 2
      · rw [if_neg (by omega)]; exact z2
      · rw [if_neg (by omega)]; exact z3
      · rw [if_neg (by omega)]; exact z4
      · rw [if_neg (by omega), t45 w2 k hk, t45 w k hk]
    · rw [if_neg (by omega), if_neg (by omega), if_neg (by omega)]; exact t5
    · rw [if_neg (by omega), if_neg (by omega), if_neg (by omega)]; exact t6
    · rw [if_neg (by omega), if_neg (by omega), if_neg (by omega), t7 w2 x hx, t7 w x hx]
  · rw [if_neg (show ¬ (9 : Nat) = 6 from by decide)]
    rcases (show x = 0 ∨ x = 1 ∨ x = 2 ∨ x = 3 ∨ x = 4 ∨ x = 5 ∨ x = 6 ∨ 7 ≤ x by omega) with rfl | rfl | rfl | rfl | rfl | rfl | rfl | hx
    · rw [if_neg (by omega), if_neg (by omega), if_neg (by omega), q0, r0]; exact ro 6 7 k (by omega) (by omega)
    · rw [if_neg (by omega), if_neg (by omega), if_neg (by omega), q1, r1]; exact ro 6 8 k (by omega) (by omega)
    · rw [if_pos (show (2 : Nat) = 2 from rfl), q2, r2]; exact ra k
    · rw [if_neg (show ¬ (3 : Nat) = 2 from by decide), if_pos (show (3 : Nat) = 2 + 1 from rfl), q3, r3]; exact rb k
    · rw [if_neg (by omega), if_neg (by omega)]
      rcases (show k = 0 ∨ k = 1 ∨ k = 2 ∨ k = 3 ∨ k = 4 ∨ 5 ≤ k by omega) with rfl | rfl | rfl | rfl | rfl | hk
      · rw [if_neg (by omega), z0]; exact g5 6 (by omega) 2
      · rw [if_pos (show (4 : Nat) = 4 ∧ (1 : Nat) = 2 / 2 from by decide), z1]; exact e2
      · rw [if_neg (by omega)]; exact z2
      · rw [if_neg (by omega)]; exact z3
      · rw [if_neg (by omega)]; exact z4
      · rw [if_neg (by omega), t45 w2 k hk, t45 w k hk]
    · rw [if_neg (by omega), if_neg (by omega), if_neg (by omega)]; exact t5
    · rw [if_neg (by omega), if_neg (by omega), if_neg (by omega)]; exact t6
    · rw [if_neg (by omega), if_neg (by omega), if_neg (by omega), t7 w2 x hx, t7 w x hx]
def wtG (t : Nat → Int32) (n th : Nat) : Int32 := ftP n 23 (wS t n th).2.1 ((wS t n th).1 = true)
def lnE (t : Nat → Int32) (n th : Nat) : Nat := if wtG t n th < 0 then 0 else (wS t n th).2.2
def qEn (t : Nat → Int32) (n th : Nat) : Int32 := if wtG t n th < 0 then wtG t n th else nI (wS t n th).2.2
theorem cq_ft (n a : Nat) (b : Bool) (hn : n ≤ 80) (ha : a ≤ min n 23) : (cfQ n (min n 23) a b < 0 ∧ ¬ ftP n 23 a (b = true) < 0 ∧ n ≤ 23 ∧ b = true ∧ a = n) ∨ (¬ cfQ n (min n 23) a b < 0 ∧ -1 - cfQ n (min n 23) a b = ftP n 23 a (b = true) ∧ ftP n 23 a (b = true) < 0) := by
  have neg : ∀ k : Nat, k ≤ 80 → -1 - nI k < 0 := by decide +kernel
  unfold cfQ ftP
  by_cases c : b = true ∧ a = min n 23
  · rw [if_pos c, if_pos c]
    by_cases d : 23 < n
    · rw [if_pos d, if_pos d]; exact .inr ⟨by decide, rfl, by decide⟩
    · rw [if_neg d, if_neg d]; exact .inl ⟨by decide, by decide, by omega, c.1, by omega⟩
  · rw [if_neg c, if_neg c]
    exact .inr ⟨nI_pos (by omega), rfl, neg a (by omega)⟩
theorem wS_ok {t : Nat → Int32} {n th : Nat} (hn : n ≤ 80) (h8 : th ≤ 8) : (wS t n th).2.1 ≤ min n 23 ∧ ((wS t n th).1 = true → (wS t n th).2.1 = n → n ≤ 23 → n ≤ 3 * (wS t n th).2.2 ∧ (∀ j, j < (wS t n th).2.2 → 3 * j < n) ∧ th + (wS t n th).2.2 ≤ 8) := by
  unfold wS
  by_cases c : n = 0
  · rw [if_pos c]
    exact ⟨Nat.zero_le _, fun _ _ _ => ⟨by omega, fun j hj => absurd hj (Nat.not_lt_zero _), h8⟩⟩
  · rw [if_neg c]
    have := wQ_le t (min n 23) th 9 0 (by omega)
    exact ⟨this.1, fun h1 h2 h3 => by have z := this.2 (by omega) h1; exact ⟨by omega, fun j hj => by omega, z.2.2⟩⟩
def EnF (a : Nat) (b : Nat) : Prop := b = 0 ∨ b = 1 ∨ b = 29 ∨ b = a ∨ b = a + 1 ∨ b = a + 2
def kpN : Kb := fun _ => none
theorem v_X10_enrol {F : Nat} (hF : 100 ≤ F) {w : Wd} {a th : Nat} (ha : a = 6 ∨ a = 9) (ok : okT w 5) (h8 : th ≤ 8) (ht : gI w a 2 = nI th) {u : Us} (hu : PsC w u) {kp : Kb} (hk : KpC w kp) {t : Nat → Int32} {n : Nat} (hx : TxC w t n) : ∃ w2, P_X10_enrol F w a = some (qEn t n th, w2) ∧ Fr (EnF a) w w2 ∧ okT w2 5 ∧ tC w2 5 = addT (tC w 5) (if a = 6 then 0 else 2) th (lnE t n th) (fsP t n) (scP t n) ∧ gI w2 a 2 = nI (th + lnE t n th) ∧ PsC w2 (if lnE t n th = 0 then u else []) ∧ KpC w2 (if lnE t n th = 0 then kp else kpN) ∧ TxC w2 t 0 := by
  have hn := hx.2.1
  have hws := wS_ok (t := t) (th := th) hn h8
  have main : ∀ v x ls, AdC w v a th ls (fsP t n) (scP t n) → th + ls ≤ 8 → (x ≤ 0 ↔ ls = 0) → ∃ w2, K_X10_enrol_27 F a v x = some (x, w2) ∧ Fr (EnF a) w w2 ∧ okT w2 5 ∧ tC w2 5 = addT (tC w 5) (if a = 6 then 0 else 2) th ls (fsP t n) (scP t n) ∧ gI w2 a 2 = nI (th + ls) ∧ PsC w2 (if ls = 0 then u else []) ∧ KpC w2 (if ls = 0 then kp else kpN) ∧ TxC w2 t 0 := by
    intro v x ls hA hl hxz
    obtain ⟨o1, o2⟩ := tC_add ha ok ht hl hA
    have f1 : Fr (fun b => b = 1) v (sI v 1 1 0) := Fr.ofI
    have fv : Fr (EnF a) w v := hA.1.imp (fun b hb => by unfold EnF; omega)
    have fw : Fr (EnF a) w (sI v 1 1 0) := fv.tr f1 (fun _ h => h) (fun b hb => by unfold EnF; omega)
    have kp1 : Kp (fun b => b = 0 ∨ b = 1 ∨ b = 29) := fun b hb => by unfold Scr; omega
    have pv : PsC v u := PsC_fr hu hA.1 (fun b hb => by unfold PaC; omega)
    have kv : KpC v kp := by
      obtain ⟨s, s1, s2, s3⟩ := hk
      exact ⟨s, s1, by rw [(hA.1 0 (by omega)).1]; exact s2, fun i hi => ⟨(s3 i hi).1, fun b hb => by rw [bC_fr hA.1 (by omega) (by omega)]; exact (s3 i hi).2 b hb⟩⟩
    have ea : gI v a 2 = nI (th + ls) := by rw [hA.2.1 2, if_pos rfl]
    unfold K_X10_enrol_27
    rw [lt_v]
    by_cases c : x ≤ 0
    · have c2 := hxz.mp c
      rw [if_pos c, if_pos c2, if_pos c2]
      have f1' : Fr (fun b => b = 0 ∨ b = 1 ∨ b = 29) v (sI v 1 1 0) := f1.imp (fun b hb => by omega)
      refine ⟨_, rfl, fw, okT_fr kp1 f1' o1, by rw [tC_fr kp1 f1' o1]; exact o2, by rw [gIa (by omega)]; exact ea, PsC_fr pv f1 (fun b hb => by unfold PaC; omega), ?_, gIs, by omega, fun k hk => absurd hk (Nat.not_lt_zero _)⟩
      obtain ⟨s, s1, s2, s3⟩ := kv
      exact ⟨s, s1, by rw [gIa (by decide)]; exact s2, fun i hi => ⟨(s3 i hi).1, fun b hb => by rw [bC_fr f1 (by omega) (by omega)]; exact (s3 i hi).2 b hb⟩⟩
    · have c2 := fun z => c (hxz.mpr z)
      rw [if_neg c, if_neg c2, if_neg c2]
      have f3 : Fr (fun b => b = 0 ∨ b = 1 ∨ b = 29) v (sI (sI (sI v 1 1 0) 29 2 0) 0 10 0) := ((f1.imp (fun b hb => by omega)).tr (Fr.ofI (a := 29)) (fun _ h => h) (fun b hb => by omega)).tr (Fr.ofI (a := 0)) (fun _ h => h) (fun b hb => by omega)
      refine ⟨_, rfl, fv.tr f3 (fun _ h => h) (fun b hb => by unfold EnF; omega), okT_fr kp1 f3 o1, by rw [tC_fr kp1 f3 o1]; exact o2, by rw [gIa (by omega), gIa (by omega), gIa (by omega)]; exact ea, ?_, ⟨0, by omega, gIs, fun i hi => ⟨⟨fun _ => rfl, fun _ => ?_⟩, fun b hb => absurd hb (by unfold kpN; simp)⟩⟩, by rw [gIa (by decide), gIa (by decide), gIs]; rfl, by omega, fun k hk => absurd hk (Nat.not_lt_zero _)⟩
      · obtain ⟨y, y1, y2, y3, y4, y5⟩ := pv
        refine ⟨y, y1, by rw [gIa (by decide), gIk (by decide), gIa (by decide)]; exact y2, Nat.zero_le _, by rw [gIa (by decide), gIs]; rfl, fun j hj => absurd hj (Nat.not_lt_zero _)⟩
      · rcases (show i = 0 ∨ i = 1 ∨ i = 2 by omega) with rfl | rfl | rfl <;> decide
  have h0 : AdC w w a th 0 (fsP t n) (scP t n) := ⟨Fr.rfl', fun k => by
    by_cases c : k = 2
    · rw [c, if_pos rfl]; exact ht
    · rw [if_neg c], fun k => rfl, fun k => by rw [if_neg (by omega)], fun k => by rw [if_neg (by omega)]⟩
  unfold P_X10_enrol
  rw [bnd_r (v_X5_faultIn hF hx ht h8)]
  rcases cq_ft n (wS t n th).2.1 (wS t n th).1 hn hws.1 with ⟨c1, c2, c3, c4, c5⟩ | ⟨c1, c2, c3⟩
  · have c2 : ¬ wtG t n th < 0 := c2
    have hq := hws.2 c4 c5 c3
    rw [if_pos c1]
    obtain ⟨w1, a1, a2⟩ := v_X5_admit hF ha hx ht ⟨hq.1, hq.2.1⟩ hq.2.2
    have el : lnE t n th = (wS t n th).2.2 := by unfold lnE; rw [if_neg c2]
    have eq : qEn t n th = nI (wS t n th).2.2 := by unfold qEn; rw [if_neg c2]
    rw [bnd_r a1, el, eq]
    exact main w1 _ _ a2 hq.2.2 (nI_le0 (by omega))
  · have c3 : wtG t n th < 0 := c3
    have c2 : -1 - cfQ n (min n 23) (wS t n th).2.1 (wS t n th).1 = wtG t n th := c2
    have el : lnE t n th = 0 := by unfold lnE; rw [if_pos c3]
    have eq : qEn t n th = wtG t n th := by unfold qEn; rw [if_pos c3]
    rw [if_neg c1, c2, el, eq]
    exact main w _ 0 h0 (by omega) ⟨fun _ => rfl, fun _ => Int32.le_of_lt c3⟩

