-- ===== a watch: how the model reads it =====
def Ra (a k : Nat) : Prop := (a = 88 ∧ (k = 15 ∨ k = 31)) ∨ (104 ≤ a ∧ a ≤ 106)
theorem Rd_Ra {a k : Nat} (h : Rd a k) : Ra a k := .inl ⟨h.1, .inl h.2⟩
def EnM (w : Wd) (t : Nat → Int32) (e i p : Nat) : Prop := gI w 104 i = (acP t e p).1 ∧ gI w 105 i = (acP t e p).2.1 ∧ ((acP t e p).1 = 2 → gI w 106 i = (acP t e p).2.2)
theorem RdM_fr {q : Nat → Nat → Prop} {w w2 : Wd} {t : Nat → Int32} {e a : Nat} (h : RdM w t e a) (f : Fm q w w2) (hq : ∀ a k, q a k → ¬ (a = 97 ∨ (a = 88 ∧ (k = 15 ∨ k = 16)))) : RdM w2 t e a :=
  ⟨by rw [(f 88 15 (fun h => hq _ _ h (by omega))).1]; exact h.1, by rw [(f 88 16 (fun h => hq _ _ h (by omega))).1]; exact h.2.1, h.2.2.1, h.2.2.2.1, fun k hk => by rw [(f 97 k (fun h => hq _ _ h (by omega))).1]; exact h.2.2.2.2 k hk⟩
theorem v_X11_readsAct {F : Nat} (hF : 100 ≤ F) {w : Wd} {t : Nat → Int32} {e p k : Nat} (h : RdM w t e p) (hk : k < 60) (e31 : gI w 88 31 = nI k) : ∃ w2, P_X11_readsAct F w = some (if raOk t e p then 1 else 0, w2) ∧ Fm Ra w w2 ∧ RdM w2 t e (raAt t e p) ∧ gI w2 88 31 = nI (k + 1) ∧ (raOk t e p → EnM w2 t e k p) ∧ (∀ i, i ≠ k → gI w2 104 i = gI w 104 i ∧ gI w2 105 i = gI w 105 i ∧ gI w2 106 i = gI w 106 i) := by
  have hin : inB (nI k) 60 = true := inB_n hk (by omega)
  have hcl : (nI k).toNatClampNeg = k := nI_clamp (by omega)
  obtain ⟨w1, a1, a2, a3⟩ := v_X11_takesOf hF h 5 (by decide)
  unfold P_X11_readsAct
  rw [lt_v, e31, bnd_r a1, hcl]
  simp only [hin, gd1]
  have a3 : RdM w1 t e (p1P t e p) := a3
  have k31 : ∀ v, gI (sI w1 104 k v) 88 31 = nI k := fun v => by rw [gIa (by decide), (a2 88 31 (fun q => absurd q.2 (by decide))).1]; exact e31
  have s0 : amS 5 (atP t e p) = sgP t e p := rfl
  rw [lt_v, s0, lt_v, k31, nI_1]
  have hw : ∃ w3, sI (sI w1 104 k (sgP t e p)) 88 31 (nI (k + 1)) = w3 ∧ Fm Ra w w3 ∧ RdM w3 t e (p1P t e p) ∧ gI w3 88 31 = nI (k + 1) ∧ gI w3 104 k = sgP t e p ∧ (∀ i, i ≠ k → gI w3 104 i = gI w 104 i ∧ gI w3 105 i = gI w 105 i ∧ gI w3 106 i = gI w 106 i) := by
    have f2 : Fm (fun a k => a = 104 ∨ (a = 88 ∧ k = 31)) w1 (sI (sI w1 104 k (sgP t e p)) 88 31 (nI (k + 1))) := (Fm.rfl'.sI (.inl rfl)).sI (.inr ⟨rfl, rfl⟩)
    refine ⟨_, rfl, (a2.imp (fun _ _ h => Rd_Ra h)).tr (f2.imp (fun a k h => ?_)), RdM_fr a3 f2 (fun a k h => by omega), gIs, by rw [gIa (by decide), gIs], fun i hi => ⟨?_, ?_, ?_⟩⟩
    · unfold Ra; omega
    · rw [gIa (by decide), gIk hi, (a2 104 i (fun q => absurd q.1 (by decide))).1]
    · rw [gIa (by decide), gIa (by decide), (a2 105 i (fun q => absurd q.1 (by decide))).1]
    · rw [gIa (by decide), gIa (by decide), (a2 106 i (fun q => absurd q.1 (by decide))).1]
  obtain ⟨w3, ew, b1, b2, b3, b4, b5⟩ := hw
  rw [ew, b4]
  -- the number behind it
  have hD : ∃ D, D = (if sgP t e p = 2 then 1 else mS (sgP t e p)) ∧ 1 ≤ D ∧ D ≤ 3 ∧ (if (0 : Int32) ≤ sgP t e p then lt (if sgP t e p = 3 then 2 else 1 : Int32) (fun x11 => K_X11_readsAct_62 F w3 (nI k) x11 (nI k)) else K_X11_readsAct_62 F w3 (nI k) 3 (nI k)) = K_X11_readsAct_62 F w3 (nI k) (nI D) (nI k) := by
    refine ⟨_, rfl, ?_⟩
    have hs : sgP t e p = 0 ∨ sgP t e p = 1 ∨ sgP t e p = 2 ∨ sgP t e p = 3 ∨ sgP t e p = -1 := by
      rcases sg5 (atP t e p) with ⟨-, q⟩ | ⟨-, q⟩ | ⟨-, q⟩ | ⟨-, q⟩ | ⟨-, q⟩
      · exact .inl q
      · exact .inr (.inl q)
      · exact .inr (.inr (.inl q))
      · exact .inr (.inr (.inr (.inl q)))
      · exact .inr (.inr (.inr (.inr q)))
    rcases hs with q | q | q | q | q <;> rw [q] <;> exact ⟨by decide, by decide, rfl⟩
  obtain ⟨D, eD, d1, d3, hD⟩ := hD
  rw [hD]
  unfold K_X11_readsAct_62
  obtain ⟨w4, c1, c2, c3⟩ := v_X11_number (F := F) hF b2 D d1 d3
  rw [bnd_r c1, hcl]
  simp only [hin, gd1]
  have ho : ∃ w5, sI w4 105 k (nmP t e D (p1P t e p)) = w5 ∧ Fm Ra w w5 ∧ RdM w5 t e (p1P t e p + cntP t e D (p1P t e p)) ∧ gI w5 88 31 = nI (k + 1) ∧ gI w5 104 k = sgP t e p ∧ gI w5 105 k = nmP t e D (p1P t e p) ∧ (∀ i, i ≠ k → gI w5 104 i = gI w 104 i ∧ gI w5 105 i = gI w 105 i ∧ gI w5 106 i = gI w 106 i) := by
    have f2 : Fm (fun a _ => a = 105) w4 (sI w4 105 k (nmP t e D (p1P t e p))) := Fm.rfl'.sI rfl
    refine ⟨_, rfl, (b1.tr (c2.imp (fun _ _ h => Rd_Ra h))).tr (f2.imp (fun a k h => ?_)), RdM_fr c3 f2 (fun a k h => by omega), ?_, ?_, gIs, fun i hi => ⟨?_, ?_, ?_⟩⟩
    · unfold Ra; omega
    · rw [gIa (by decide), (c2 88 31 (fun q => absurd q.2 (by decide))).1]; exact b3
    · rw [gIa (by decide), (c2 104 k (fun q => absurd q.1 (by decide))).1]; exact b4
    · rw [gIa (by decide), (c2 104 i (fun q => absurd q.1 (by decide))).1]; exact (b5 i hi).1
    · rw [gIk hi, (c2 105 i (fun q => absurd q.1 (by decide))).1]; exact (b5 i hi).2.1
    · rw [gIa (by decide), (c2 106 i (fun q => absurd q.1 (by decide))).1]; exact (b5 i hi).2.2
  obtain ⟨w5, ew5, g1, g2, g3, g4, g5, g6⟩ := ho
  rw [lt_v, ew5, g5, g4]
  have h85 : ∀ v : Wd, gI v 105 k = nmP t e D (p1P t e p) → K_X11_readsAct_85 F v (nI k) = some (if nmP t e D (p1P t e p) < 0 then 0 else 1, v) := fun v hv => by
    unfold K_X11_readsAct_85
    rw [gd_t hin, hcl, hv, lt_v, gd_t isZO_i]
  by_cases hd : dgP t e (p1P t e p)
  · have hnn : ¬ nmP t e D (p1P t e p) < 0 := fun q => (nm_neg d3).mp q hd
    have env : nmP t e D (p1P t e p) = valP t e D (p1P t e p) 0 := if_pos hd
    rw [if_neg hnn]
    by_cases s2 : sgP t e p = 2
    · have D1 : D = 1 := by rw [eD, if_pos s2]
      subst D1
      have e1 : cntP t e 1 (p1P t e p) = 1 := by rw [cntP, if_pos hd]; rfl
      have e2 : cntP t e 2 (p1P t e p) = cntP t e 1 (p1P t e p + 1) + 1 := by rw [cntP, if_pos hd]
      have era : raAt t e p = p1P t e p + 1 + cntP t e 1 (p1P t e p + 1) := by unfold raAt; rw [s2, show mS 2 = 2 from rfl, e2]; omega
      have eok : raOk t e p ↔ dgP t e (p1P t e p + 1) := by
        unfold raOk
        rw [s2, show mS 2 = 2 from rfl, show lS 2 = 2 from rfl, e2]
        by_cases c : dgP t e (p1P t e p + 1)
        · rw [show cntP t e 1 (p1P t e p + 1) = 1 from by rw [cntP, if_pos c]; rfl]; exact ⟨fun _ => c, fun _ => by omega⟩
        · rw [cnt_0 c]; exact ⟨fun h => absurd h (by omega), fun h => absurd h c⟩
      rw [e1] at g2
      obtain ⟨w6, m1, m2, m3⟩ := v_X11_number (F := F) hF g2 1 (by decide) (by decide)
      rw [if_pos s2, bnd_r (show P_X11_number F w5 1 = _ from m1), lt_v, gIs, lt_v, gd_t isZO_i]
      have f2 : Fm (fun a _ => a = 106) w6 (sI w6 106 k (nmP t e 1 (p1P t e p + 1))) := Fm.rfl'.sI rfl
      refine ⟨_, ?_, (g1.tr (m2.imp (fun _ _ h => Rd_Ra h))).tr (f2.imp (fun a k h => ?_)), ?_, ?_, fun hr => ⟨?_, ?_, fun _ => ?_⟩, fun i hi => ⟨?_, ?_, ?_⟩⟩
      · by_cases c : dgP t e (p1P t e p + 1)
        · rw [if_pos (eok.mpr c), if_neg (fun q => (nm_neg (by decide)).mp q c)]
        · rw [if_neg (fun q => c (eok.mp q)), if_pos ((nm_neg (by decide)).mpr c)]
      · unfold Ra; omega
      · rw [era]; exact RdM_fr m3 f2 (fun a k h => by omega)
      · rw [gIa (by decide), (m2 88 31 (fun q => absurd q.2 (by decide))).1]; exact g3
      · rw [gIa (by decide), (m2 104 k (fun q => absurd q.1 (by decide))).1]; exact g4
      · rw [gIa (by decide), (m2 105 k (fun q => absurd q.1 (by decide))).1, g5, env]
        show _ = valP t e (if sgP t e p = 2 then 1 else mS (sgP t e p)) (p1P t e p) 0
        rw [if_pos s2]
      · rw [gIs]; exact if_pos (eok.mp hr)
      · rw [gIa (by decide), (m2 104 i (fun q => absurd q.1 (by decide))).1]; exact (g6 i hi).1
      · rw [gIa (by decide), (m2 105 i (fun q => absurd q.1 (by decide))).1]; exact (g6 i hi).2.1
      · rw [gIk hi, (m2 106 i (fun q => absurd q.1 (by decide))).1]; exact (g6 i hi).2.2
    · have eD2 : D = mS (sgP t e p) := by rw [eD, if_neg s2]
      have hok : raOk t e p := by
        unfold raOk
        rw [← eD2, show lS (sgP t e p) = 1 from if_neg s2]
        obtain ⟨D, rfl⟩ : ∃ q, D = q + 1 := ⟨D - 1, by omega⟩
        rw [cntP, if_pos hd]; omega
      rw [if_neg s2, h85 w5 g5, if_neg hnn, if_pos hok]
      refine ⟨w5, rfl, g1, ?_, g3, fun _ => ⟨g4, ?_, fun q => absurd q s2⟩, g6⟩
      · unfold raAt; rw [← eD2]; exact g2
      · rw [g5, env]
        show _ = valP t e (if sgP t e p = 2 then 1 else mS (sgP t e p)) (p1P t e p) 0
        rw [if_neg s2, ← eD2]
  · have hnn : nmP t e D (p1P t e p) < 0 := (nm_neg d3).mpr hd
    have hok : ¬ raOk t e p := by
      unfold raOk; rw [cnt_0 hd]; unfold lS; split <;> decide
    rw [if_pos hnn, h85 w5 g5, if_pos hnn, if_neg hok]
    refine ⟨w5, rfl, g1, ?_, g3, fun q => absurd q hok, g6⟩
    have : raAt t e p = p1P t e p + cntP t e D (p1P t e p) := by unfold raAt; rw [cnt_0 hd, cnt_0 hd]
    rw [this]; exact g2
theorem l_X11_watchR {F : Nat} (hF : 100 ≤ F) {t : Nat → Int32} {e : Nat} (he : e ≤ 60) (x7 : Int32) (k60 : Wd → Int32 → Option (Int32 × Wd)) : ∀ m p k f w x, p ≤ e → e < p + m → e < p + f → 2 * k ≤ p → RdM w t e p → gI w 88 31 = nI k → ∃ w2, L_X11_watch_29 F x7 k60 (f + 1) w x 1 = k60 w2 (if (wP t e m p).1 = true then 1 else 0) ∧ Fm Ra w w2 ∧ RdM w2 t e (wP t e m p).2.1 ∧ gI w2 88 31 = nI (k + (wP t e m p).2.2.length) ∧ ((wP t e m p).1 = true → ∀ i, i < (wP t e m p).2.2.length → EnM w2 t e (k + i) ((wP t e m p).2.2.getD i 0)) ∧ (∀ i, i < k → gI w2 104 i = gI w 104 i ∧ gI w2 105 i = gI w 105 i ∧ gI w2 106 i = gI w 106 i) := by
  intro m
  induction m with
  | zero => intro p k f w x h1 h2; omega
  | succ m ih =>
    intro p k f w x h1 h2 h3 h4 h5 h6
    obtain ⟨f, rfl⟩ : ∃ q, f = q + 1 := ⟨f - 1, by omega⟩
    obtain ⟨w1, a1, a2, a3, a4, a5, a6⟩ := v_X11_readsAct hF h5 (k := k) (by omega) h6
    rw [L_X11_watch_29, if_neg (show ¬ (1 : Int32) = 0 from by decide), bnd_r a1]
    have stop : ∀ v y, L_X11_watch_29 F x7 k60 (f + 1) v y 0 = k60 v y := fun v y => by rw [L_X11_watch_29, if_pos rfl]
    have hone : ∀ u, gI u 88 31 = nI (k + 1) → gI u 88 31 = nI (k + [p].length) := fun u h => h
    by_cases c1 : raOk t e p
    · rw [if_pos c1, if_neg (show ¬ (1 : Int32) = 0 from by decide)]
      obtain ⟨w2, b1, b2, b3⟩ := v_X11_isNext F a3 59 (by decide)
      have b31 : gI w2 88 31 = nI (k + 1) := by rw [(b2 88 31 (fun q => absurd q.2 (by decide))).1]; exact a4
      have bEn : EnM w2 t e k p := by
        obtain ⟨q1, q2, q3⟩ := a5 c1
        exact ⟨by rw [(b2 104 k (fun q => absurd q.1 (by decide))).1]; exact q1, by rw [(b2 105 k (fun q => absurd q.1 (by decide))).1]; exact q2, fun h => by rw [(b2 106 k (fun q => absurd q.1 (by decide))).1]; exact q3 h⟩
      have bo : ∀ i, i ≠ k → gI w2 104 i = gI w 104 i ∧ gI w2 105 i = gI w 105 i ∧ gI w2 106 i = gI w 106 i := fun i hi => ⟨by rw [(b2 104 i (fun q => absurd q.1 (by decide))).1]; exact (a6 i hi).1, by rw [(b2 105 i (fun q => absurd q.1 (by decide))).1]; exact (a6 i hi).2.1, by rw [(b2 106 i (fun q => absurd q.1 (by decide))).1]; exact (a6 i hi).2.2⟩
      have bf : Fm Ra w w2 := a2.tr (b2.imp (fun _ _ h => Rd_Ra h))
      rw [bnd_r b1, lt_v]
      by_cases c2 : atP t e (raAt t e p) = 59
      · rw [if_pos c2] at b3 ⊢
        rw [if_neg (show ¬ (1 : Int32) = 0 from by decide), wP_yes ⟨c1, c2⟩]
        have hr := ra_ok h1 c1
        have hl := b3.2.2.2.1
        obtain ⟨w3, d1, d2, d3, d4, d5, d6⟩ := ih (raAt t e p + 1) (k + 1) f w2 1 hl (by omega) (by omega) (by omega) b3 b31
        refine ⟨w3, d1, bf.tr d2, d3, ?_, fun hs i hi => ?_, fun i hi => ?_⟩
        · rw [d4]; congr 1; show k + 1 + _ = k + (_ + 1); omega
        · cases i with
          | zero =>
            obtain ⟨q1, q2, q3⟩ := bEn
            obtain ⟨r1, r2, r3⟩ := d6 k (by omega)
            exact ⟨r1.trans q1, r2.trans q2, fun h => r3.trans (q3 h)⟩
          | succ i =>
            have := d5 hs i (by have hi : i + 1 < _ + 1 := hi; omega)
            rw [show k + (i + 1) = k + 1 + i from by omega]
            exact this
        · obtain ⟨r1, r2, r3⟩ := d6 i (by omega)
          obtain ⟨q1, q2, q3⟩ := bo i (by omega)
          exact ⟨r1.trans q1, r2.trans q2, r3.trans q3⟩
      · rw [if_neg c2] at b3 ⊢
        rw [if_pos (show (0 : Int32) = 0 from rfl), wP_no (fun q => c2 q.2), stop, decide_eq_true c1, if_pos rfl]
        refine ⟨w2, rfl, bf, b3, hone _ b31, fun _ i hi => ?_, fun i hi => bo i (by omega)⟩
        obtain rfl : i = 0 := by have hi : i < 1 := hi; omega
        exact bEn
    · rw [if_neg c1, if_pos (show (0 : Int32) = 0 from rfl), wP_no (fun q => c1 q.1), decide_eq_false c1]
      refine ⟨w1, ?_, a2, a3, hone _ a4, fun h => absurd (show false = true from h) (by decide), fun i hi => a6 i (by omega)⟩
      show L_X11_watch_29 F x7 k60 (f + 1) w1 0 0 = _
      rw [stop]; rfl
