-- ===== both sides as one state =====
def CI (w : Wd) (T : Tw) (b : Bl) (r p : Nat) (u : Us) (t : Nat → Int32) (n : Nat) (L : List Int64) (c : Nat) (f : Nf) (kp : Kb) : Prop := okT w 5 ∧ spC w ∧ tC w 5 = T ∧ bC w 23 = b ∧ gI w 6 2 = nI r ∧ gI w 9 2 = nI p ∧ PsC w u ∧ TxC w t n ∧ Tl w L ∧ NtC w c f ∧ KpC w kp
def MI (w : Wd) (T : Tw) (b : Bl) (r p N : Nat) (u : Us) (t : Nat → Int32) (n : Nat) (L : List Int64) (c : Nat) (f : Nf) (kp : Kb) (C : Nat) : Prop := MT w T r p N ∧ rM w 95 = b ∧ PsM w u ∧ TxM w t n ∧ TlM w L ∧ NtM w c f ∧ KpM w kp C
def PI (T : Tw) (b : Bl) (r p N K : Nat) (u : Us) (t : Nat → Int32) (n : Nat) (L : List Int64) (c : Nat) (f : Nf) (kp : Kb) : Prop := okTw T r p N ∧ BlI b r p K ∧ (∀ x, x ∈ u → BlI x r p K) ∧ (∀ i x, kp i = some x → BlI x r p K) ∧ okNf c f ∧ L.length ≤ 6 ∧ ∀ k, k < n → ∃ c : Nat, c < 256 ∧ t k = nI c
def Inv (w : Wd) (q : Nat) : Prop := ∃ T b r p N u t n L c f kp, CI w T b r p u t n L c f kp ∧ MI w T b r p N u t n L c f kp q ∧ PI T b r p N (7200 * q) u t n L c f kp
section FRS
variable {g : Nat → Prop} {h : Nat → Nat → Prop} {w w2 : Wd}
theorem KpC_fr {kp : Kb} (k : KpC w kp) (fr : Fr g w w2) (hg : ∀ b, g b → ¬ (b = 0 ∨ (82 ≤ b ∧ b ≤ 87))) : KpC w2 kp := by
  obtain ⟨s, s1, s2, s3⟩ := k
  exact ⟨s, s1, by rw [(fr 0 (fun z => hg 0 z (.inl rfl))).1]; exact s2, fun i hi => ⟨(s3 i hi).1, fun b hb => by rw [bC_fr fr (fun z => hg _ z (by omega)) (fun z => hg _ z (by omega))]; exact (s3 i hi).2 b hb⟩⟩
theorem Tl_fr {L : List Int64} (k : Tl w L) (fr : Fr g w w2) (hg : ∀ b, g b → b ≠ 3 ∧ b ≠ 4) : Tl w2 L := ⟨by rw [(fr 3 (fun z => (hg 3 z).1 rfl)).1]; exact k.1, fun j hj => by rw [(fr 4 (fun z => (hg 4 z).2 rfl)).2.1]; exact k.2 j hj⟩
theorem tw_fr (ok : okT w 5) (sp : spC w) (e0 : gR w2 0 4 = gR w 0 4) (fr : Fr g w w2) (hg : ∀ b, g b → ¬ (5 ≤ b ∧ b ≤ 13) ∧ b ≠ 18 ∧ b ≠ 19) : okT w2 5 ∧ spC w2 ∧ tC w2 5 = tC w 5 := by
  have hn : ∀ b, (5 ≤ b ∧ b ≤ 13) ∨ b = 18 ∨ b = 19 → ¬ g b := fun b hb z => by have := hg b z; omega
  have e5 : gR w2 5 2 = gR w 5 2 := (fr 5 (hn 5 (by omega))).2.2 2
  have ha := isX2_or ok.2.1
  have l0 : ∀ k, gI w2 (gR w 5 2) k = gI w (gR w 5 2) k := (fr _ (hn _ (by omega))).1
  have l1 : ∀ k, gI w2 (gR w 5 2 + 1) k = gI w (gR w 5 2 + 1) k := (fr _ (hn _ (by omega))).1
  obtain ⟨q1, q2⟩ := okL_e2 l0 l1 ok.2.2
  refine ⟨⟨.inl rfl, by rw [e5]; exact ok.2.1, by rw [e5]; exact q1⟩, ⟨by rw [e0]; exact sp.1, by rw [e0, e5]; exact sp.2⟩, tC_all (tC_lo (fun k _ => (fr 5 (hn 5 (by omega))).1 k) (fun b k h1 h2 => (fr b (hn b (by omega))).1 k)) e5 q2 (l0 1)⟩
theorem TxM_fr {t : Nat → Int32} {n : Nat} (k : TxM w t n) (fr : Fm h w w2) (hg : ∀ a k, h a k → ¬ (a = 97 ∨ (a = 88 ∧ k = 14))) : TxM w2 t n := ⟨by rw [(fr 88 14 (fun z => hg _ _ z (.inr ⟨rfl, rfl⟩))).1]; exact k.1, k.2.1, fun j hj => by rw [(fr 97 j (fun z => hg _ _ z (.inl rfl))).1]; exact k.2.2 j hj⟩
theorem TlM_fr {L : List Int64} (k : TlM w L) (fr : Fm h w w2) (hg : ∀ a k, h a k → ¬ (a = 89 ∨ (a = 88 ∧ k = 1))) : TlM w2 L := ⟨by rw [(fr 88 1 (fun z => hg _ _ z (.inr ⟨rfl, rfl⟩))).1]; exact k.1, fun j hj => by rw [(fr 89 j (fun z => hg _ _ z (.inl rfl))).2.1]; exact k.2 j hj⟩
theorem KpM_mono {kp : Kb} {C D : Nat} (k : KpM w kp C) (hCD : C ≤ D) : KpM w kp D := by
  obtain ⟨ch, c1, c2⟩ := k
  exact ⟨ch, Nat.le_trans c1 hCD, c2⟩
end FRS
section BOTH
variable {F : Nat} {w w1 w2 : Wd} {T : Tw} {b : Bl} {r p N K C q : Nat} {u : Us} {t : Nat → Int32} {n : Nat} {L : List Int64} {c : Nat} {f : Nf} {kp : Kb}
/-- the class's half is not touched where the model works -/
theorem CI_fr {g : Nat → Prop} (k : CI w T b r p u t n L c f kp) (fr : Fr g w w2) (hg : ∀ b, g b → 88 ≤ b) : CI w2 T b r p u t n L c f kp := by
  obtain ⟨a1, a2, a3, a4, a5, a6, a7, a8, a9, a10, a11⟩ := k
  have hn : ∀ b, b < 88 → ¬ g b := fun b hb z => by have := hg b z; omega
  obtain ⟨b1, b2, b3⟩ := tw_fr a1 a2 ((fr 0 (hn 0 (by omega))).2.2 4) fr (fun b z => by have := hg b z; omega)
  exact ⟨b1, b2, b3.trans a3, by rw [bC_fr fr (hn 23 (by omega)) (hn 24 (by omega))]; exact a4, by rw [(fr 6 (hn 6 (by omega))).1]; exact a5, by rw [(fr 9 (hn 9 (by omega))).1]; exact a6, PsC_fr a7 fr (fun b z => by have := hg b z; unfold PaC; omega), TxC_fr a8 fr (hn 1 (by omega)) (hn 2 (by omega)), Tl_fr a9 fr (fun b z => by have := hg b z; omega), NtC_fr a10 fr (fun b z => by have := hg b z; omega), KpC_fr a11 fr (fun b z => by have := hg b z; omega)⟩
theorem Fm_Fr {h : Nat → Nat → Prop} (f : Fm h w w2) (hh : ∀ a k, h a k → 88 ≤ a) : Fr (fun a => 88 ≤ a) w w2 := fun a ha => ⟨fun k => (f a k (fun z => ha (hh a k z))).1, fun k => (f a k (fun z => ha (hh a k z))).2.1, fun k => (f a k (fun z => ha (hh a k z))).2.2⟩
theorem CI_fm {h : Nat → Nat → Prop} (k : CI w T b r p u t n L c f kp) (fm : Fm h w w2) (hh : ∀ a k, h a k → 88 ≤ a) : CI w2 T b r p u t n L c f kp := CI_fr k (Fm_Fr fm hh) (fun _ z => z)
/-- nor the model's where the class works -/
theorem MI_fm {h : Nat → Nat → Prop} (k : MI w T b r p N u t n L c f kp C) (fm : Fm h w w2) (hh : ∀ a k, h a k → a < 88 ∨ a = 119) : MI w2 T b r p N u t n L c f kp C := by
  obtain ⟨a1, a2, a3, a4, a5, a6, a7⟩ := k
  exact ⟨MT_fr fm (fun a k z => by have := hh a k z; unfold Mp; omega) a1, by rw [rM_fr fm (fun k _ z => by have := hh 95 k z; omega)]; exact a2, PsM_fr a3 fm (fun a k z => by have := hh a k z; omega), TxM_fr a4 fm (fun a k z => by have := hh a k z; omega), TlM_fr a5 fm (fun a k z => by have := hh a k z; omega), NtM_fr a6 fm (fun a k z => by have := hh a k z; omega), KpM_fr a7 fm (fun a k z => by have := hh a k z; omega)⟩
theorem MI_fr {g : Nat → Prop} (k : MI w T b r p N u t n L c f kp C) (fr : Fr g w w2) (hg : ∀ b, g b → b < 88 ∨ b = 119) : MI w2 T b r p N u t n L c f kp C := MI_fm k (Fm.ofFr fr) (fun a _ z => hg a z)
theorem PI_K {K2 : Nat} (k : PI T b r p N K u t n L c f kp) (h : K ≤ K2) : PI T b r p N K2 u t n L c f kp := by
  obtain ⟨a1, a2, a3, a4, a5, a6, a7⟩ := k
  exact ⟨a1, BlI_K a2 h, fun x z => BlI_K (a3 x z) h, fun i x z => BlI_K (a4 i x z) h, a5, a6, a7⟩
theorem MI_C {D : Nat} (k : MI w T b r p N u t n L c f kp C) (h : C ≤ D) : MI w T b r p N u t n L c f kp D := by
  obtain ⟨a1, a2, a3, a4, a5, a6, a7⟩ := k
  exact ⟨a1, a2, a3, a4, a5, a6, KpM_mono a7 h⟩
/-- both answer alike, and go on alike -/
def Two (oC : Option (Int32 × Wd)) (oM : Wd → Option (Int32 × Wd)) (q : Nat) : Prop := ∃ v w1 w2, oC = some (v, w1) ∧ oM w1 = some (v, w2) ∧ Inv w2 (q + 1)
theorem two_fin {oC : Option (Int32 × Wd)} {oM : Wd → Option (Int32 × Wd)} {v : Int32} {h : Nat → Nat → Prop} (e1 : oC = some (v, w1)) (e2 : oM w1 = some (v, w2)) (hC : CI w1 T b r p u t n L c f kp) (fm : Fm h w1 w2) (hh : ∀ a k, h a k → 88 ≤ a) (hM : MI w2 T b r p N u t n L c f kp (q + 1)) (hP : PI T b r p N (7200 * (q + 1)) u t n L c f kp) : Two oC oM q := ⟨v, w1, w2, e1, e2, T, b, r, p, N, u, t, n, L, c, f, kp, CI_fm hC fm hh, hM, hP⟩
/-- the state, with the class's own words for it -/
theorem Inv_e (h : Inv w q) : ∃ r p N u t n L c f kp, CI w (tC w 5) (bC w 23) r p u t n L c f kp ∧ MI w (tC w 5) (bC w 23) r p N u t n L c f kp q ∧ PI (tC w 5) (bC w 23) r p N (7200 * q) u t n L c f kp := by
  obtain ⟨T, b, r, p, N, u, t, n, L, c, f, kp, h1, h2, h3⟩ := h
  obtain ⟨a1, a2, rfl, rfl, a5⟩ := id h1
  exact ⟨r, p, N, u, t, n, L, c, f, kp, h1, h2, h3⟩
theorem St_of (hC : CI w T b r p u t n L c f kp) (hP : PI T b r p N K u t n L c f kp) : St w := ⟨hC.1, ⟨r, hP.1.1, hC.2.2.2.2.1⟩, p, hP.1.2.1, hC.2.2.2.2.2.1⟩
theorem MG_of (hM : MI w T b r p N u t n L c f kp C) (hP : PI T b r p N K u t n L c f kp) : MG w T b r p N := ⟨hP.1, hM.1, hM.2.1, hP.2.1.1⟩
theorem QP_lt {b : Nat} (h : QP b) : b < 88 := by unfold QP Scr at h; omega
theorem QM_ge {a k : Nat} (h : QM a k) : 88 ≤ a := by unfold QM QN Tm at h; omega
theorem QN_ge {a k : Nat} (h : QN a k) : 88 ≤ a := by unfold QN at h; omega
/-- behind a question to the class -/
theorem CI_Q {o : Option (Int32 × Wd)} {A : Ans} (hC : CI w T b r p u t n L c f kp) (h : AskC o A w) : ∃ w1, o = some (A.1, w1) ∧ Fr QP w w1 ∧ CI w1 T b r p u t n (A.2.getD L) c f kp := by
  obtain ⟨w1, e, fr, tq⟩ := h
  obtain ⟨a1, a2, a3, a4, a5, a6, a7, a8, a9, a10, a11⟩ := hC
  have nq : ∀ b, b < 3 ∨ (5 ≤ b ∧ b ≤ 13) ∨ b = 18 ∨ b = 19 ∨ b = 23 ∨ b = 24 → ¬ QP b := fun b hb z => by unfold QP Scr at z; omega
  obtain ⟨b1, b2, b3⟩ := tw_fr a1 a2 ((fr 0 (nq 0 (by omega))).2.2 4) fr (fun b z => by unfold QP Scr at z; omega)
  refine ⟨w1, e, fr, b1, b2, b3.trans a3, by rw [bC_fr fr (nq 23 (by omega)) (nq 24 (by omega))]; exact a4, by rw [(fr 6 (nq 6 (by omega))).1]; exact a5, by rw [(fr 9 (nq 9 (by omega))).1]; exact a6, PsC_fr a7 fr (fun b z => by unfold QP Scr at z; unfold PaC; omega), TxC_fr a8 fr (nq 1 (by omega)) (nq 2 (by omega)), ?_, NtC_fr a10 fr (fun b z => by unfold QP Scr at z; omega), KpC_fr a11 fr (fun b z => by unfold QP Scr at z; omega)⟩
  cases h2 : A.2 with
  | none =>
    rw [h2] at tq
    exact ⟨by rw [tq.1]; exact a9.1, fun k hk => by rw [tq.2]; exact a9.2 k hk⟩
  | some L' => rw [h2] at tq; exact tq
theorem MI_Q {o : Option (Int32 × Wd)} {A : Ans} (hM : MI w T b r p N u t n L c f kp C) (h : AskM o A w) : ∃ w1, o = some (A.1, w1) ∧ Fm QM w w1 ∧ MI w1 T b r p N u t n (A.2.getD L) c f kp C := by
  obtain ⟨w1, e, fm, tq⟩ := h
  obtain ⟨a1, a2, a3, a4, a5, a6, a7⟩ := hM
  have un : ∀ {a k}, QM a k → (a = 88 ∧ (k = 0 ∨ k = 1 ∨ k = 34 ∨ k = 43 ∨ k = 44)) ∨ a = 89 ∨ a = 96 ∨ a = 101 ∨ a = 102 ∨ (107 ≤ a ∧ a ≤ 109) ∨ a = 114 ∨ a = 115 := fun {a k} z => by unfold QM QN Tm at z; omega
  refine ⟨w1, e, fm, MT_fr fm (fun _ _ z => QM_Mp z) a1, by rw [rM_fr fm (fun k _ z => QM95 z)]; exact a2, PsM_fr a3 fm (fun a k z => by have := un z; omega), TxM_fr a4 fm (fun a k z => by have := un z; omega), ?_, NtM_fr a6 fm (fun a k z => by have := un z; omega), KpM_fr a7 fm (fun a k z => by have := un z; omega)⟩
  cases h2 : A.2 with
  | none =>
    rw [h2] at tq
    exact ⟨by rw [tq.1]; exact a5.1, fun k hk => by rw [tq.2]; exact a5.2 k hk⟩
  | some L' => rw [h2] at tq; exact tq
/-- what a question tells is no longer than this -/
def LK (A : Ans) : Prop := ∀ L', A.2 = some L' → L'.length ≤ 6
theorem PI_L {A : Ans} (h : PI T b r p N K u t n L c f kp) (hA : LK A) : PI T b r p N K u t n (A.2.getD L) c f kp := by
  obtain ⟨a1, a2, a3, a4, a5, a6, a7⟩ := h
  refine ⟨a1, a2, a3, a4, a5, ?_, a7⟩
  cases h2 : A.2 with
  | none => exact a6
  | some L' => exact hA L' h2
theorem two_ask (hC : CI w T b r p u t n L c f kp) (hM : MI w T b r p N u t n L c f kp q) (hP : PI T b r p N (7200 * q) u t n L c f kp) {oC : Option (Int32 × Wd)} {oM : Wd → Option (Int32 × Wd)} {A : Ans} (h1 : AskC oC A w) (h2 : ∀ w1, MI w1 T b r p N u t n L c f kp q → AskM (oM w1) A w1) (h6 : LK A) : Two oC oM q := by
  obtain ⟨w1, e1, f1, c1⟩ := CI_Q hC h1
  have m1 := MI_fr hM f1 (fun b z => .inl (QP_lt z))
  obtain ⟨w2, e2, f2, m2⟩ := MI_Q m1 (h2 w1 m1)
  exact two_fin e1 e2 c1 f2 (fun _ _ z => QM_ge z) (MI_C m2 (Nat.le_succ _)) (PI_K (PI_L hP h6) (Nat.mul_le_mul_left _ (Nat.le_succ _)))
end BOTH
theorem LK_n (v : Int32) : LK (v, none) := fun _ z => absurd z (by simp)
theorem LK_s (v : Int32) (L : List Int64) (h : L.length ≤ 6) : LK (v, some L) := fun L' z => by rw [← Option.some.inj z]; exact h
theorem LK_i {c : Prop} [Decidable c] {A B : Ans} (h1 : LK A) (h2 : LK B) : LK (if c then A else B) := by
  by_cases h : c
  · rw [if_pos h]; exact h1
  · rw [if_neg h]; exact h2
theorem LK_r {x a b : Int32} {A : Ans} (h : ¬ x < a → x ≤ b → LK A) : LK (qR x a b A) := by
  unfold qR
  by_cases h1 : x < a
  · rw [if_pos h1]; exact LK_n _
  · rw [if_neg h1]
    by_cases h2 : x ≤ b
    · rw [if_pos h2]; exact h h1 h2
    · rw [if_neg h2]; exact LK_n _
