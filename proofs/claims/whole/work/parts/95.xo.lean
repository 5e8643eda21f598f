-- ===== a rule's text: the model =====
def CoM (w : Wd) (M : List Int32) : Prop := gI w 88 23 = nI M.length ∧ LsR w 100 M
def Rr (a k : Nat) : Prop := (a = 88 ∧ (k = 15 ∨ k = 17 ∨ k = 23)) ∨ a = 100
theorem Rd_Rr {a k : Nat} (h : Rd a k) : Rr a k := .inl ⟨h.1, .inl h.2⟩
theorem CoM_fr {q : Nat → Nat → Prop} {w w2 : Wd} {M : List Int32} (h : CoM w M) (f : Fm q w w2) (hq : ∀ a k, q a k → ¬ (a = 100 ∨ (a = 88 ∧ k = 23))) : CoM w2 M := ⟨by rw [(f 88 23 (fun z => hq _ _ z (by omega))).1]; exact h.1, LsR_eq h.2 (fun k _ => (f 100 k (fun z => hq _ _ z (by omega))).1)⟩
theorem v_X11_codes (F : Nat) {w : Wd} {M : List Int32} (h : CoM w M) (hl : M.length < 80) (x : Int32) : ∃ w2, P_X11_codes F w x = some w2 ∧ Fm (fun a k => a = 100 ∨ (a = 88 ∧ k = 23)) w w2 ∧ CoM w2 (x :: M) := by
  unfold P_X11_codes
  rw [h.1, gd_t (inB_n hl (by omega)), nI_clamp (by omega), lt_v, gIa (by decide), h.1, nI_1, lt_v]
  exact ⟨_, rfl, (Fm.rfl'.sI (.inl rfl)).sI (.inr ⟨rfl, rfl⟩), gIs, by rw [gIa (by decide), gIs], LsR_eq h.2 (fun k hk => by rw [gIa (by decide), gIk (by omega)])⟩
def opA (k : Nat) : Nat := if k = 0 then 2 else if k = 1 then 3 else 4
def opC (k : Nat) : Int32 := if k = 0 then 0 else if k = 1 then 3 else 5
abbrev Rs : Type := Bool × Nat × List Int32
def lpR (f : Nat → List Int32 → Rs) (t : Nat → Int32) (e k : Nat) : Nat → Nat → List Int32 → Rs
  | 0, p, M => (false, p, M)
  | m + 1, p, M => if amS (opA k) (atP t e p) < 0 then (true, p, M) else if (f (p + 1) M).1 = true then (if k = 0 then (true, (f (p + 1) M).2.1, (2000 + amS (opA k) (atP t e p) + opC k) :: (f (p + 1) M).2.2) else lpR f t e k m (f (p + 1) M).2.1 ((2000 + amS (opA k) (atP t e p) + opC k) :: (f (p + 1) M).2.2)) else (false, (f (p + 1) M).2.1, (f (p + 1) M).2.2)
def rD (t : Nat → Int32) (e : Nat) : Nat → Nat → Nat → Nat → List Int32 → Rs
  | 0, _, p, _, M => (false, p, M)
  | D + 1, k, p, d, M =>
    if k = 4 then
      (if atP t e p = 45 then ((rD t e D 4 (p + 1) d M).1, (rD t e D 4 (p + 1) d M).2.1, 3000 :: (rD t e D 4 (p + 1) d M).2.2)
      else if dgP t e p then (true, p + cntP t e 3 p, valP t e 3 p 0 :: M)
      else if ¬ amS 0 (atP t e p) < 0 then (true, p + 1, (1000 + amS 0 (atP t e p)) :: M)
      else if d = 4 ∨ ¬ atP t e p = 40 then (false, p, M)
      else if (rD t e D 0 (p + 1) (d + 1) M).1 = true then
        (if atP t e (rD t e D 0 (p + 1) (d + 1) M).2.1 = 41 then (true, (rD t e D 0 (p + 1) (d + 1) M).2.1 + 1, (rD t e D 0 (p + 1) (d + 1) M).2.2) else (false, (rD t e D 0 (p + 1) (d + 1) M).2.1, (rD t e D 0 (p + 1) (d + 1) M).2.2))
      else (false, (rD t e D 0 (p + 1) (d + 1) M).2.1, (rD t e D 0 (p + 1) (d + 1) M).2.2))
    else if k = 3 then rD t e D 4 p d M
    else if (rD t e D (k + 1) p d M).1 = true then lpR (fun p M => rD t e D (k + 1) p d M) t e k 41 (rD t e D (k + 1) p d M).2.1 (rD t e D (k + 1) p d M).2.2
    else (false, (rD t e D (k + 1) p d M).2.1, (rD t e D (k + 1) p d M).2.2)
/-- a reader's program, and what it reads -/
def RdP (o : Wd → Option (Int32 × Wd)) (f : Nat → List Int32 → Rs) (t : Nat → Int32) (e d p : Nat) : Prop := ∀ (M : List Int32) (w : Wd), RdM w t e p → gI w 88 17 = nI d → CoM w M → M.length ≤ p → ∃ w2, o w = some (if (f p M).1 = true then 1 else 0, w2) ∧ Fm Rr w w2 ∧ RdM w2 t e (f p M).2.1 ∧ CoM w2 (f p M).2.2 ∧ ((f p M).1 = true → gI w2 88 17 = nI d ∧ p + 1 ≤ (f p M).2.1) ∧ p ≤ (f p M).2.1 ∧ (f p M).2.2.length + p ≤ M.length + (f p M).2.1
theorem am_lt {t : Nat → Int32} {e p a : Nat} (ha : a < 6) (h : ¬ amS a (atP t e p) < 0) : p < e := by
  by_cases c : p < e
  · exact c
  · have e1 : atP t e p = -1 := if_neg c
    have := amP_none (chS a) (atP t e p) (strL a) 0 (fun k _ hk => by rw [e1]; exact ((chS_ok a ha).2 k (by omega)).2)
    unfold amS at h
    rw [this] at h
    exact absurd (by decide) h
theorem l_lpR {F : Nat} (hF : 100 ≤ F) {t : Nat → Int32} {e d k : Nat} (he : e ≤ 40) (hk : k < 3) (gT : Wd → Option (Int32 × Wd)) (gR' : Wd → Int32 → Option (Int32 × Wd)) (f : Nat → List Int32 → Rs) (p0 : Nat) (hf : ∀ p, p0 ≤ p → p ≤ e → RdP (fun w => gR' w (nI (k + 1))) f t e d p) : ∀ m p M (n : Nat) (w : Wd), p0 ≤ p → p ≤ e → e < p + m → m < n → RdM w t e p → gI w 88 17 = nI d → CoM w M → M.length ≤ p → ∃ w2, L_X11_readsRank_24 F (nI k) gT gR' (fun w  => some (1, w)) n w 1 = some (if (lpR f t e k m p M).1 = true then 1 else 0, w2) ∧ Fm Rr w w2 ∧ RdM w2 t e (lpR f t e k m p M).2.1 ∧ CoM w2 (lpR f t e k m p M).2.2 ∧ ((lpR f t e k m p M).1 = true → gI w2 88 17 = nI d) ∧ p ≤ (lpR f t e k m p M).2.1 ∧ (lpR f t e k m p M).2.2.length + p ≤ M.length + (lpR f t e k m p M).2.1 := by
  intro m
  induction m with
  | zero => intro p M n w h0 h1 h2; omega
  | succ m ih =>
    intro p M n w h0 h1 h2 h3 h4 h5 h6 h7
    obtain ⟨n, rfl⟩ : ∃ q, n = q + 1 := ⟨n - 1, by omega⟩
    have ha : opA k < 6 := by unfold opA; split; omega; split <;> omega
    have step : L_X11_readsRank_24 F (nI k) gT gR' (fun w  => some (1, w)) (n + 1) w 1 = K_X11_readsRank_50 F (nI k) gT gR' (fun w  => some (1, w)) (L_X11_readsRank_24 F (nI k) gT gR' (fun w  => some (1, w)) n) w (opA k) := by
      rw [L_X11_readsRank_24, if_neg (show ¬ (1 : Int32) = 0 from by decide)]
      rcases (show k = 0 ∨ k = 1 ∨ k = 2 by omega) with rfl | rfl | rfl
      · rw [if_pos (show nI 0 = 0 from rfl)]; rfl
      · rw [if_neg (show ¬ nI 1 = 0 from by decide), if_pos (show nI 1 = 1 from rfl)]; rfl
      · rw [if_neg (show ¬ nI 2 = 0 from by decide), if_neg (show ¬ nI 2 = 1 from by decide)]; rfl
    have ec : (if nI k = 0 then (0 : Int32) else if nI k = 1 then 3 else 5) = opC k := by
      rcases (show k = 0 ∨ k = 1 ∨ k = 2 by omega) with rfl | rfl | rfl <;> rfl
    obtain ⟨w1, a1, a2, a3⟩ := v_X11_takesOf hF h4 (opA k) ha
    rw [step]
    unfold K_X11_readsRank_50
    rw [bnd_r a1, lpR, ec]
    have d1 : gI w1 88 17 = nI d := by rw [(a2 88 17 (by unfold Rd; omega)).1]; exact h5
    have c1 : CoM w1 M := CoM_fr h6 a2 (fun a k h => by unfold Rd at h; omega)
    by_cases c : amS (opA k) (atP t e p) < 0
    · rw [if_neg (Int32.not_le.mpr c), if_pos c]
      rw [if_pos c] at a3
      exact ⟨w1, rfl, a2.imp (fun _ _ h => Rd_Rr h), a3, c1, fun _ => d1, Nat.le_refl _, Nat.le_refl _⟩
    · rw [if_pos (Int32.not_lt.mp c), if_neg c]
      rw [if_neg c] at a3
      have hp := am_lt ha c
      obtain ⟨w2, b1, b2, b3, b4, b5, b6, b7⟩ := hf (p + 1) (by omega) (by omega) M w1 a3 d1 c1 (by omega)
      rw [nI_1, bnd_r b1]
      have hl2 : (f (p + 1) M).2.1 ≤ e := b3.2.2.2.1
      by_cases c2 : (f (p + 1) M).1 = true
      · rw [if_pos c2, if_pos c2, if_neg (show ¬ (1 : Int32) = 0 from by decide), lt_v]
        obtain ⟨w3, q1, q2, q3⟩ := v_X11_codes F b4 (by omega) (2000 + amS (opA k) (atP t e p) + opC k)
        have q4 : RdM w3 t e (f (p + 1) M).2.1 := RdM_fr b3 q2 (fun a k h => by omega)
        have q5 : gI w3 88 17 = nI d := by rw [(q2 88 17 (by omega)).1]; exact (b5 c2).1
        have qf : Fm Rr w w3 := ((a2.imp (fun _ _ h => Rd_Rr h)).tr b2).tr (q2.imp (fun a k h => by unfold Rr; omega))
        rw [bnv_r q1, lt_v]
        by_cases k0 : k = 0
        · rw [if_pos k0, k0, if_pos (show nI 0 ≤ 0 from by decide)]
          obtain ⟨n, rfl⟩ : ∃ q, n = q + 1 := ⟨n - 1, by omega⟩
          rw [L_X11_readsRank_24, if_pos rfl]
          rw [k0] at q3
          exact ⟨w3, rfl, qf, q4, q3, fun _ => q5, by show p ≤ (f (p + 1) M).2.1; omega, by show (f (p + 1) M).2.2.length + 1 + p ≤ _; show _ ≤ M.length + (f (p + 1) M).2.1; omega⟩
        · rw [if_neg k0, if_neg (nI_nle (by omega) (by omega))]
          obtain ⟨w4, r1, r2, r3, r4, r5, r6, r7⟩ := ih (f (p + 1) M).2.1 ((2000 + amS (opA k) (atP t e p) + opC k) :: (f (p + 1) M).2.2) n w3 (by omega) hl2 (by omega) (by omega) q4 q5 q3 (by show (f (p + 1) M).2.2.length + 1 ≤ _; omega)
          refine ⟨w4, r1, qf.tr r2, r3, r4, r5, by omega, ?_⟩
          have : ((2000 + amS (opA k) (atP t e p) + opC k) :: (f (p + 1) M).2.2).length = (f (p + 1) M).2.2.length + 1 := rfl
          omega
      · rw [if_neg c2, if_neg c2, if_pos (show (0 : Int32) = 0 from rfl)]
        exact ⟨w2, rfl, (a2.imp (fun _ _ h => Rd_Rr h)).tr b2, b3, b4, fun q => absurd (show false = true from q) (by decide), by show p ≤ (f (p + 1) M).2.1; omega, by show (f (p + 1) M).2.2.length + p ≤ M.length + (f (p + 1) M).2.1; omega⟩

theorem gd_zo {c : Prop} [Decidable c] {w : Wd} : gd (isZO (if c then (1 : Int32) else 0)) (some ((if c then (1 : Int32) else 0), w)) = some ((if c then (1 : Int32) else 0), w) := gd_t isZO_j
theorem m_reads {F : Nat} (hF : 100 ≤ F) {t : Nat → Int32} {e : Nat} (he : e ≤ 40) : ∀ D, (∀ d p, d ≤ 4 → p ≤ e → 5 * (4 - d) + (e - p) + 1 ≤ D → RdP (D_reads F D).1 (fun p M => rD t e D 4 p d M) t e d p) ∧ (∀ k d p, k ≤ 3 → d ≤ 4 → p ≤ e → 5 * (4 - d) + (e - p) + 1 + (4 - k) ≤ D → RdP (fun w => (D_reads F D).2 w (nI k)) (fun p M => rD t e D k p d M) t e d p) := by
  intro D
  induction D with
  | zero => exact ⟨fun d p h1 h2 h3 => by omega, fun k d p h0 h1 h2 h3 => by omega⟩
  | succ D ih =>
    obtain ⟨ihT, ihR⟩ := ih
    refine ⟨fun d p h1 h2 h3 => ?_, fun k d p h0 h1 h2 h3 => ?_⟩
    · intro M w g1 g2 g3 g4
      show ∃ w2, B_X11_readsThing F (D_reads F D).1 (D_reads F D).2 w = _ ∧ _
      unfold B_X11_readsThing
      obtain ⟨w1, a1, a2, a3⟩ := v_X11_isNext F g1 45 (by decide)
      have fR1 : Fm Rr w w1 := a2.imp (fun _ _ h => Rd_Rr h)
      have d1 : gI w1 88 17 = nI d := by rw [(a2 88 17 (by unfold Rd; omega)).1]; exact g2
      have c1 : CoM w1 M := CoM_fr g3 a2 (fun a k h => by unfold Rd at h; omega)
      rw [bnd_r a1]
      show ∃ w2, _ = some (if (rD t e (D + 1) 4 p d M).1 = true then 1 else 0, w2) ∧ Fm Rr w w2 ∧ RdM w2 t e (rD t e (D + 1) 4 p d M).2.1 ∧ CoM w2 (rD t e (D + 1) 4 p d M).2.2 ∧ ((rD t e (D + 1) 4 p d M).1 = true → gI w2 88 17 = nI d ∧ p + 1 ≤ (rD t e (D + 1) 4 p d M).2.1) ∧ p ≤ (rD t e (D + 1) 4 p d M).2.1 ∧ (rD t e (D + 1) 4 p d M).2.2.length + p ≤ M.length + (rD t e (D + 1) 4 p d M).2.1
      rw [rD, if_pos (show (4 : Nat) = 4 from rfl)]
      by_cases b1 : atP t e p = 45
      · rw [if_pos b1] at a3 ⊢
        rw [if_neg (show ¬ (1 : Int32) = 0 from by decide), if_pos b1]
        have hp : p < e := a3.2.2.2.1
        obtain ⟨w2, q1, q2, q3, q4, q5, q6, q7⟩ := ihT d (p + 1) h1 hp (by omega) M w1 a3 d1 c1 (by omega)
        have ql : (rD t e D 4 (p + 1) d M).2.1 ≤ e := q3.2.2.2.1
        have q6 : p + 1 ≤ (rD t e D 4 (p + 1) d M).2.1 := q6
        have q7 : (rD t e D 4 (p + 1) d M).2.2.length + (p + 1) ≤ M.length + (rD t e D 4 (p + 1) d M).2.1 := q7
        obtain ⟨w3, r1, r2, r3⟩ := v_X11_codes F q4 (by show (rD t e D 4 (p + 1) d M).2.2.length < 80; omega) 3000
        rw [bnd_r q1, bnv_r r1, gd_zo]
        refine ⟨w3, rfl, (fR1.tr q2).tr (r2.imp (fun a k h => by unfold Rr; omega)), RdM_fr q3 r2 (fun a k h => by omega), r3, fun hs => ⟨by rw [(r2 88 17 (by omega)).1]; exact (q5 hs).1, by show p + 1 ≤ _; exact q6⟩, by show p ≤ (rD t e D 4 (p + 1) d M).2.1; omega, ?_⟩
        show (rD t e D 4 (p + 1) d M).2.2.length + 1 + p ≤ M.length + (rD t e D 4 (p + 1) d M).2.1
        omega
      rw [if_neg b1] at a3 ⊢
      have a3 : RdM w1 t e p := a3
      rw [if_pos (show (0 : Int32) = 0 from rfl), if_neg b1, bnd_r (v_X11_isDigit F a3)]
      by_cases b2 : dgP t e p
      · rw [if_pos b2, if_neg (show ¬ (1 : Int32) = 0 from by decide), if_pos b2]
        obtain ⟨w2, q1, q2, q3⟩ := v_X11_number (F := F) hF a3 3 (by decide) (by decide)
        have c2 : CoM w2 M := CoM_fr c1 q2 (fun a k h => by unfold Rd at h; omega)
        obtain ⟨w3, r1, r2, r3⟩ := v_X11_codes F c2 (by omega) (nmP t e 3 p)
        have ecn : cntP t e 3 p = cntP t e 2 (p + 1) + 1 := by rw [cntP, if_pos b2]
        have env : nmP t e 3 p = valP t e 3 p 0 := if_pos b2
        rw [env] at r1 r3 q1
        rw [bnd_r (show P_X11_number F w1 3 = _ from q1), bnv_r r1]
        refine ⟨w3, rfl, (fR1.tr (q2.imp (fun _ _ h => Rd_Rr h))).tr (r2.imp (fun a k h => by unfold Rr; omega)), RdM_fr q3 r2 (fun a k h => by omega), r3, fun _ => ⟨by rw [(r2 88 17 (by omega)).1, (q2 88 17 (by unfold Rd; omega)).1]; exact d1, by show p + 1 ≤ p + cntP t e 3 p; omega⟩, by show p ≤ p + cntP t e 3 p; omega, ?_⟩
        show M.length + 1 + p ≤ M.length + (p + cntP t e 3 p)
        omega
      rw [if_neg b2, if_pos (show (0 : Int32) = 0 from rfl), if_neg b2]
      obtain ⟨w2, q1, q2, q3⟩ := v_X11_takesOf hF a3 0 (by decide)
      have d2 : gI w2 88 17 = nI d := by rw [(q2 88 17 (by unfold Rd; omega)).1]; exact d1
      have c2 : CoM w2 M := CoM_fr c1 q2 (fun a k h => by unfold Rd at h; omega)
      have fR2 : Fm Rr w w2 := fR1.tr (q2.imp (fun _ _ h => Rd_Rr h))
      rw [bnd_r q1]
      by_cases b3 : amS 0 (atP t e p) < 0
      · rw [if_pos b3] at q3
        rw [if_pos b3, d2, if_neg (show ¬ ¬ amS 0 (atP t e p) < 0 from fun z => z b3)]
        by_cases b4 : d = 4
        · rw [if_pos (show nI d = 4 from by rw [b4]; rfl), if_pos (show d = 4 ∨ ¬ atP t e p = 40 from .inl b4)]
          exact ⟨w2, rfl, fR2, q3, c2, fun z => absurd (show false = true from z) (by decide), Nat.le_refl _, Nat.le_refl _⟩
        rw [if_neg (show ¬ nI d = 4 from fun z => b4 ((nI_eq (a := d) (b := 4) (by omega) (by decide)).mp z))]
        obtain ⟨w3, r1, r2, r3⟩ := v_X11_isNext F (show RdM w2 t e p from q3) 40 (by decide)
        have d3 : gI w3 88 17 = nI d := by rw [(r2 88 17 (by unfold Rd; omega)).1]; exact d2
        have c3 : CoM w3 M := CoM_fr c2 r2 (fun a k h => by unfold Rd at h; omega)
        have fR3 : Fm Rr w w3 := fR2.tr (r2.imp (fun _ _ h => Rd_Rr h))
        rw [bnd_r r1]
        by_cases b5 : atP t e p = 40
        · rw [if_pos b5] at r3
          have hp : p < e := r3.2.2.2.1
          rw [if_pos b5, if_neg (show ¬ (1 : Int32) = 0 from by decide), if_neg (show ¬ (d = 4 ∨ ¬ atP t e p = 40) from fun z => z.elim b4 (fun z => z b5)), d3, nI_1, lt_v]
          have f4 : Fm (fun a k => a = 88 ∧ k = 17) w3 (sI w3 88 17 (nI (d + 1))) := Fm.rfl'.sI ⟨rfl, rfl⟩
          obtain ⟨w5, s1, s2, s3, s4, s5, s6, s7⟩ := ihR 0 (d + 1) (p + 1) (by omega) (by omega) hp (by omega) M (sI w3 88 17 (nI (d + 1))) (RdM_fr r3 f4 (fun a k h => by omega)) gIs (CoM_fr c3 f4 (fun a k h => by omega)) (by omega)
          have s6 : p + 1 ≤ (rD t e D 0 (p + 1) (d + 1) M).2.1 := s6
          have s7 : (rD t e D 0 (p + 1) (d + 1) M).2.2.length + (p + 1) ≤ M.length + (rD t e D 0 (p + 1) (d + 1) M).2.1 := s7
          have fR5 : Fm Rr w w5 := (fR3.tr (f4.imp (fun a k h => by unfold Rr; omega))).tr s2
          rw [bnd_r (show (D_reads F D).2 (sI w3 88 17 (nI (d + 1))) 0 = _ from s1)]
          by_cases b6 : (rD t e D 0 (p + 1) (d + 1) M).1 = true
          · rw [if_pos b6, if_pos b6, if_neg (show ¬ (1 : Int32) = 0 from by decide)]
            obtain ⟨w6, u1, u2, u3⟩ := v_X11_isNext F s3 41 (by decide)
            have d6 : gI w6 88 17 = nI (d + 1) := by rw [(u2 88 17 (by unfold Rd; omega)).1]; exact (s5 b6).1
            have c6 : CoM w6 (rD t e D 0 (p + 1) (d + 1) M).2.2 := CoM_fr s4 u2 (fun a k h => by unfold Rd at h; omega)
            have fR6 : Fm Rr w w6 := fR5.tr (u2.imp (fun _ _ h => Rd_Rr h))
            rw [bnd_r u1]
            by_cases b7 : atP t e (rD t e D 0 (p + 1) (d + 1) M).2.1 = 41
            · rw [if_pos b7] at u3
              rw [if_pos b7, if_pos b7, if_neg (show ¬ (1 : Int32) = 0 from by decide), d6, nI_pred, lt_v]
              have f7 : Fm (fun a k => a = 88 ∧ k = 17) w6 (sI w6 88 17 (nI d)) := Fm.rfl'.sI ⟨rfl, rfl⟩
              refine ⟨_, rfl, fR6.tr (f7.imp (fun a k h => by unfold Rr; omega)), RdM_fr u3 f7 (fun a k h => by omega), CoM_fr c6 f7 (fun a k h => by omega), fun _ => ⟨gIs, by show p + 1 ≤ (rD t e D 0 (p + 1) (d + 1) M).2.1 + 1; omega⟩, by show p ≤ (rD t e D 0 (p + 1) (d + 1) M).2.1 + 1; omega, ?_⟩
              show (rD t e D 0 (p + 1) (d + 1) M).2.2.length + p ≤ M.length + ((rD t e D 0 (p + 1) (d + 1) M).2.1 + 1)
              omega
            · rw [if_neg b7] at u3
              rw [if_neg b7, if_neg b7, if_pos (show (0 : Int32) = 0 from rfl)]
              exact ⟨w6, rfl, fR6, u3, c6, fun z => absurd (show false = true from z) (by decide), by show p ≤ (rD t e D 0 (p + 1) (d + 1) M).2.1; omega, by show (rD t e D 0 (p + 1) (d + 1) M).2.2.length + p ≤ M.length + (rD t e D 0 (p + 1) (d + 1) M).2.1; omega⟩
          · rw [if_neg b6, if_neg b6, if_pos (show (0 : Int32) = 0 from rfl)]
            exact ⟨w5, rfl, fR5, s3, s4, fun z => absurd (show false = true from z) (by decide), by show p ≤ (rD t e D 0 (p + 1) (d + 1) M).2.1; omega, by show (rD t e D 0 (p + 1) (d + 1) M).2.2.length + p ≤ M.length + (rD t e D 0 (p + 1) (d + 1) M).2.1; omega⟩
        · rw [if_neg b5] at r3
          rw [if_neg b5, if_pos (show (0 : Int32) = 0 from rfl), if_pos (show d = 4 ∨ ¬ atP t e p = 40 from .inr b5)]
          exact ⟨w3, rfl, fR3, r3, c3, fun z => absurd (show false = true from z) (by decide), Nat.le_refl _, Nat.le_refl _⟩
      · rw [if_neg b3] at q3
        obtain ⟨w3, r1, r2, r3⟩ := v_X11_codes F c2 (by omega) (1000 + amS 0 (atP t e p))
        rw [if_neg b3, if_pos b3, bnv_r r1]
        refine ⟨w3, rfl, fR2.tr (r2.imp (fun a k h => by unfold Rr; omega)), RdM_fr q3 r2 (fun a k h => by omega), r3, fun _ => ⟨by rw [(r2 88 17 (by omega)).1]; exact d2, Nat.le_refl _⟩, by show p ≤ p + 1; omega, ?_⟩
        show M.length + 1 + p ≤ M.length + (p + 1)
        omega
    · intro M w g1 g2 g3 g4
      show ∃ w2, B_X11_readsRank F (D_reads F D).1 (D_reads F D).2 w (nI k) = _ ∧ _
      unfold B_X11_readsRank
      show ∃ w2, _ = some (if (rD t e (D + 1) k p d M).1 = true then 1 else 0, w2) ∧ Fm Rr w w2 ∧ RdM w2 t e (rD t e (D + 1) k p d M).2.1 ∧ CoM w2 (rD t e (D + 1) k p d M).2.2 ∧ ((rD t e (D + 1) k p d M).1 = true → gI w2 88 17 = nI d ∧ p + 1 ≤ (rD t e (D + 1) k p d M).2.1) ∧ p ≤ (rD t e (D + 1) k p d M).2.1 ∧ (rD t e (D + 1) k p d M).2.2.length + p ≤ M.length + (rD t e (D + 1) k p d M).2.1
      rw [rD, if_neg (show ¬ k = 4 from by omega)]
      by_cases k3 : k = 3
      · subst k3
        obtain ⟨w2, q1, q2, q3, q4, q5, q6, q7⟩ := ihT d p h1 h2 (by omega) M w g1 g2 g3 g4
        rw [if_pos (show nI 3 = 3 from rfl), if_pos (show (3 : Nat) = 3 from rfl), bnd_r q1, gd_zo]
        exact ⟨w2, rfl, q2, q3, q4, q5, q6, q7⟩
      · rw [if_neg (show ¬ nI k = 3 from fun z => k3 ((nI_eq (a := k) (b := 3) (by omega) (by decide)).mp z)), if_neg k3, nI_1]
        obtain ⟨w2, q1, q2, q3, q4, q5, q6, q7⟩ := ihR (k + 1) d p (by omega) h1 h2 (by omega) M w g1 g2 g3 g4
        have q6 : p ≤ (rD t e D (k + 1) p d M).2.1 := q6
        have q7 : (rD t e D (k + 1) p d M).2.2.length + p ≤ M.length + (rD t e D (k + 1) p d M).2.1 := q7
        rw [bnd_r q1]
        by_cases b : (rD t e D (k + 1) p d M).1 = true
        · obtain ⟨q8, q9⟩ := q5 b
          have q9 : p + 1 ≤ (rD t e D (k + 1) p d M).2.1 := q9
          have ql : (rD t e D (k + 1) p d M).2.1 ≤ e := q3.2.2.2.1
          rw [if_pos b, if_neg (show ¬ (1 : Int32) = 0 from by decide), if_pos b]
          obtain ⟨w3, r1, r2, r3, r4, r5, r6, r7⟩ := l_lpR hF he (show k < 3 by omega) (D_reads F D).1 (D_reads F D).2 (fun p M => rD t e D (k + 1) p d M) p (fun p' z1 z2 => ihR (k + 1) d p' (by omega) h1 z2 (by omega)) 41 (rD t e D (k + 1) p d M).2.1 (rD t e D (k + 1) p d M).2.2 F w2 q6 ql (by omega) (by omega) q3 q8 q4 (by omega)
          exact ⟨w3, r1, q2.tr r2, r3, r4, fun z => ⟨r5 z, by omega⟩, by omega, by omega⟩
        · rw [if_neg b, if_pos (show (0 : Int32) = 0 from rfl), if_neg b]
          exact ⟨w2, rfl, q2, q3, q4, fun z => absurd (show false = true from z) (by decide), q6, q7⟩
