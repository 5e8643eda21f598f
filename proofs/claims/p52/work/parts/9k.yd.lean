-- ===== both sides as one state =====
def CI (w : Wd) (T : Tw) (b : Bl) (r p : Nat) (u : Us) (t : Nat → Int32) (n : Nat) (L : List Int64) (c : Nat) (f : Nf) (kp : Kb) : Prop := okT w 5 ∧ spC w ∧ tC w 5 = T ∧ bC w 23 = b ∧ gI w 6 2 = nI r ∧ gI w 9 2 = nI p ∧ PsC w u ∧ TxC w t n ∧ Tl w L ∧ NtC w c f ∧ KpC w kp
def PI (T : Tw) (b : Bl) (r p N K : Nat) (u : Us) (t : Nat → Int32) (n : Nat) (L : List Int64) (c : Nat) (f : Nf) (kp : Kb) : Prop := okTw T r p N ∧ BlI b r p K ∧ (∀ x, x ∈ u → BlI x r p K) ∧ (∀ i x, kp i = some x → BlI x r p K) ∧ okNf c f ∧ L.length ≤ 6 ∧ ∀ k, k < n → ∃ c : Nat, c < 256 ∧ t k = nI c
section FRS
variable {g : Nat → Prop} {h : Nat → Nat → Prop} {w w2 : Wd}
theorem KpC_fr {kp : Kb} (k : KpC w kp) (fr : Fr g w w2) (hg : ∀ b, g b → ¬ (b = 0 ∨ (82 ≤ b ∧ b ≤ 87))) : KpC w2 kp := by
  obtain ⟨s, s1, s2, s3⟩ := k
  exact ⟨s, s1, by rw [(fr 0 (fun z => hg 0 z (.inl rfl))).1]; exact s2, fun i hi => ⟨(s3 i hi).1, fun b hb => by rw [bC_fr fr (fun z => hg _ z (by omega)) (fun z => hg _ z (by omega))]; exact (s3 i hi).2 b hb⟩⟩
theorem Tl_fr {L : List Int64} (k : Tl w L) (fr : Fr g w w2) (hg : ∀ b, g b → b ≠ 3 ∧ b ≠ 4) : Tl w2 L := ⟨by rw [(fr 3 (fun z => (hg 3 z).1 rfl)).1]; exact k.1, fun j hj => by rw [(fr 4 (fun z => (hg 4 z).2 rfl)).2.1]; exact k.2 j hj⟩
theorem tw_fr (ok : okT w 5) (sp : spC w) (e0 : gR w2 0 4 = gR w 0 4) (fr : Fr g w w2) (hg : ∀ b, g b → ¬ (5 ≤ b ∧ b ≤ 13) ∧ b ≠ 18 ∧ b ≠ 19) : okT w2 5 ∧ spC w2 ∧ tC w2 5 = tC w 5 := by
  have hn : ∀ b, (5 ≤ b ∧ b ≤ 13) ∨ b = 18 ∨ b = 19 → ¬ g b := fun b hb z => by have := hg b z; omega
  have e5 : gR w2 5 2 = gR w 5 2 := (fr 5 (hn 5 (by omega))).2.2 2
  have ha := isX2_or ok.2.1
  have l0 : ∀ k, gI w2 (gR w 5 2) k = gI w (gR w 5 2) k := (fr _ (hn _ (by omega))).1
  have l1 : ∀ k, gI w2 (gR w 5 2 + 1) k = gI w (gR w 5 2 + 1) k := (fr _ (hn _ (by omega))).1
  obtain ⟨q1, q2⟩ := okL_e2 l0 l1 ok.2.2
  refine ⟨⟨.inl rfl, by rw [e5]; exact ok.2.1, by rw [e5]; exact q1⟩, ⟨by rw [e0]; exact sp.1, by rw [e0, e5]; exact sp.2⟩, tC_all (tC_lo (fun k _ => (fr 5 (hn 5 (by omega))).1 k) (fun b k h1 h2 => (fr b (hn b (by omega))).1 k)) e5 q2 (l0 1)⟩
end FRS
section BOTH
variable {F : Nat} {w w1 w2 : Wd} {T : Tw} {b : Bl} {r p N K C q : Nat} {u : Us} {t : Nat → Int32} {n : Nat} {L : List Int64} {c : Nat} {f : Nf} {kp : Kb}
theorem PI_K {K2 : Nat} (k : PI T b r p N K u t n L c f kp) (h : K ≤ K2) : PI T b r p N K2 u t n L c f kp := by
  obtain ⟨a1, a2, a3, a4, a5, a6, a7⟩ := k
  exact ⟨a1, BlI_K a2 h, fun x z => BlI_K (a3 x z) h, fun i x z => BlI_K (a4 i x z) h, a5, a6, a7⟩
theorem St_of (hC : CI w T b r p u t n L c f kp) (hP : PI T b r p N K u t n L c f kp) : St w := ⟨hC.1, ⟨r, hP.1.1, hC.2.2.2.2.1⟩, p, hP.1.2.1, hC.2.2.2.2.2.1⟩
/-- behind a question to the class -/
theorem CI_Q {o : Option (Int32 × Wd)} {A : Ans} (hC : CI w T b r p u t n L c f kp) (h : AskC o A w) : ∃ w1, o = some (A.1, w1) ∧ Fr QP w w1 ∧ CI w1 T b r p u t n (A.2.getD L) c f kp := by
  obtain ⟨w1, e, fr, tq⟩ := h
  obtain ⟨a1, a2, a3, a4, a5, a6, a7, a8, a9, a10, a11⟩ := hC
  have nq : ∀ b, b < 3 ∨ (5 ≤ b ∧ b ≤ 13) ∨ b = 18 ∨ b = 19 ∨ b = 23 ∨ b = 24 → ¬ QP b := fun b hb z => by unfold QP Scr at z; omega
  obtain ⟨b1, b2, b3⟩ := tw_fr a1 a2 ((fr 0 (nq 0 (by omega))).2.2 4) fr (fun b z => by unfold QP Scr at z; omega)
  refine ⟨w1, e, fr, b1, b2, b3.trans a3, by rw [bC_fr fr (nq 23 (by omega)) (nq 24 (by omega))]; exact a4, by rw [(fr 6 (nq 6 (by omega))).1]; exact a5, by rw [(fr 9 (nq 9 (by omega))).1]; exact a6, PsC_fr a7 fr (fun b z => by unfold QP Scr at z; unfold PaC; omega), TxC_fr a8 fr (nq 1 (by omega)) (nq 2 (by omega)), ?_, NtC_fr a10 fr (fun b z => by unfold QP Scr at z; omega), KpC_fr a11 fr (fun b z => by unfold QP Scr at z; omega)⟩
  cases h2 : A.2 with
  | none =>
    rw [h2] at tq
    exact ⟨by rw [tq.1]; exact a9.1, fun k hk => by rw [tq.2]; exact a9.2 k hk⟩
  | some L' => rw [h2] at tq; exact tq
end BOTH
