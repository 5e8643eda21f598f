-- ===== ringers, town: the model reads =====
def Rp (a k : Nat) : Prop := (a = 88 ∧ (k = 15 ∨ k = 19)) ∨ a = 98
theorem Rd_Rp {a k : Nat} (h : Rd a k) : Rp a k := .inl ⟨h.1, .inl h.2⟩
abbrev prOk (t : Nat → Int32) (e th k : Nat) : Prop := ¬ th + k = 8 ∧ o1P t e (3 * k) ∧ dgP t e (3 * k + 1)
theorem v_X11_readsPair {F : Nat} (hF : 100 ≤ F) {w : Wd} {t : Nat → Int32} {e th k : Nat} (h : RdM w t e (3 * k)) (h8 : th + k ≤ 8) (e19 : gI w 88 19 = nI k) : ∃ w2, P_X11_readsPair F w (nI th) = some (if prOk t e th k then 1 else 0, w2) ∧ Fm Rp w w2 ∧ RdM w2 t e (if th + k = 8 ∨ ¬ o1P t e (3 * k) then 3 * k else if ¬ dgP t e (3 * k + 1) then 3 * k + 1 else 3 * k + 2) ∧ (prOk t e th k → gI w2 88 19 = nI (k + 1) ∧ gI w2 98 (2 * k) = fsP t e k ∧ gI w2 98 (2 * k + 1) = scP t e k) ∧ ∀ i, i < 2 * k → gI w2 98 i = gI w 98 i := by
  unfold P_X11_readsPair
  rw [e19, nI_add]
  by_cases c8 : th + k = 8
  · rw [if_pos (show nI (th + k) = 8 from by rw [c8]; rfl), if_neg (show ¬ prOk t e th k from fun q => q.1 c8), if_pos (.inl c8)]
    exact ⟨w, rfl, Fm.rfl', h, fun q => absurd c8 q.1, fun i _ => rfl⟩
  have hk : k < 8 := by omega
  rw [if_neg (show ¬ nI (th + k) = 8 from fun q => c8 ((nI_eq (a := th + k) (b := 8) (by omega) (by decide)).mp q))]
  obtain ⟨w1, a1, a2, a3⟩ := v_X11_takesOf hF h 1 (by decide)
  have e2k : (2 : Int32) * nI k = nI (2 * k) := pk_mul 2 k
  have hin : inB (nI (2 * k)) 16 = true := inB_n (by omega) (by omega)
  rw [bnd_r a1, e2k, gd_t hin, nI_clamp (by omega), lt_v]
  have f2 : ∀ x, Fm (fun a _ => a = 98) w1 (sI w1 98 (2 * k) x) := fun x => Fm.rfl'.sI rfl
  have k19 : ∀ x, gI (sI w1 98 (2 * k) x) 88 19 = nI k := fun x => by rw [gIa (by decide), (a2 88 19 (by unfold Rd; omega)).1]; exact e19
  rw [k19, e2k, gd_t hin, nI_clamp (by omega), gIs]
  -- the second number
  have k67 : ∀ v x, gI v 88 19 = nI k → K_X11_readsPair_67 F (nI th) v x (nI (2 * k) + 1) = some (if x < 0 then 0 else 1, sI (sI v 98 (2 * k + 1) x) 88 19 (nI (k + 1))) := fun v x hv => by
    unfold K_X11_readsPair_67
    rw [nI_1, gd_t (inB_n (by omega) (by omega)), nI_clamp (by omega), lt_v, gIa (by decide), hv, nI_1, lt_v, gIs, show (2 : Int32) * nI (k + 1) = nI (2 * k + 1 + 1) from by rw [show (2 : Int32) = nI 2 from rfl, pk_mul]; congr 1, nI_pred, gd_t (inB_n (by omega) (by omega)), nI_clamp (by omega), lt_v, gIa (by decide), gIs, gd_t isZO_i]
  by_cases c1 : o1P t e (3 * k)
  · obtain ⟨c, d1, d2, d3, d4, d5⟩ := am1_yes c1
    have a3 : RdM w1 t e (3 * k + 1) := by rw [if_neg d5] at a3; exact a3
    have m3 : RdM (sI w1 98 (2 * k) (nI c)) t e (3 * k + 1) := RdM_fr a3 (f2 _) (fun a k h => by omega)
    obtain ⟨w2, b1, b2, b3⟩ := v_X11_number (F := F) hF m3 1 (by decide) (by decide)
    have b19 : gI w2 88 19 = nI k := by rw [(b2 88 19 (by unfold Rd; omega)).1]; exact k19 _
    rw [d3, if_neg (nI_ne0 (by omega) (by omega)), bnd_r (show P_X11_number F _ 1 = _ from b1), k67 w2 _ b19]
    have f3 : Fm Rp w2 (sI (sI w2 98 (2 * k + 1) (nmP t e 1 (3 * k + 1))) 88 19 (nI (k + 1))) := (Fm.rfl'.sI (.inr rfl)).sI (.inl ⟨rfl, .inr rfl⟩)
    have fA : Fm Rp w (sI (sI w2 98 (2 * k + 1) (nmP t e 1 (3 * k + 1))) 88 19 (nI (k + 1))) := (((a2.imp (fun _ _ h => Rd_Rp h)).tr ((f2 (nI c)).imp (fun _ _ h => .inr h))).tr (b2.imp (fun _ _ h => Rd_Rp h))).tr f3
    have b3' : RdM (sI (sI w2 98 (2 * k + 1) (nmP t e 1 (3 * k + 1))) 88 19 (nI (k + 1))) t e (3 * k + 1 + cntP t e 1 (3 * k + 1)) := RdM_fr b3 (show Fm (fun a k => a = 98 ∨ (a = 88 ∧ k = 19)) w2 _ from (Fm.rfl'.sI (.inl rfl)).sI (.inr ⟨rfl, rfl⟩)) (fun a k h => by omega)
    have old : ∀ i, i < 2 * k → gI (sI (sI w2 98 (2 * k + 1) (nmP t e 1 (3 * k + 1))) 88 19 (nI (k + 1))) 98 i = gI w 98 i := fun i hi => by
      rw [gIa (by decide), gIk (by omega), (b2 98 i (by unfold Rd; omega)).1, gIk (by omega), (a2 98 i (by unfold Rd; omega)).1]
    rw [if_neg (show ¬ (th + k = 8 ∨ ¬ o1P t e (3 * k)) from fun q => q.elim c8 (fun z => z c1))]
    by_cases c2 : dgP t e (3 * k + 1)
    · have ec : cntP t e 1 (3 * k + 1) = 1 := by rw [cntP, if_pos c2]; rfl
      rw [if_neg (show ¬ nmP t e 1 (3 * k + 1) < 0 from fun q => (nm_neg (by decide)).mp q c2), if_pos (show prOk t e th k from ⟨c8, c1, c2⟩), if_neg (fun q => q c2)]
      rw [ec] at b3'
      refine ⟨_, rfl, fA, b3', fun _ => ⟨gIs, ?_, ?_⟩, old⟩
      · rw [gIa (by decide), gIk (by omega), (b2 98 _ (by unfold Rd; omega)).1, gIs]; exact d4.symm
      · rw [gIa (by decide), gIs]; exact if_pos c2
    · have ec : cntP t e 1 (3 * k + 1) = 0 := cnt_0 c2 1
      rw [if_pos (show nmP t e 1 (3 * k + 1) < 0 from (nm_neg (by decide)).mpr c2), if_neg (show ¬ prOk t e th k from fun q => c2 q.2.2), if_pos c2]
      rw [ec] at b3'
      exact ⟨_, rfl, fA, b3', fun q => absurd q.2.2 c2, old⟩
  · have ha := am1_no c1
    rw [ha] at a3 ⊢
    have a3 : RdM w1 t e (3 * k) := by rw [if_pos (show (-1 : Int32) < 0 from by decide)] at a3; exact a3
    rw [if_pos (show (1 : Int32) + -1 = 0 from rfl), k67 _ _ (k19 _), if_pos (show (-1 : Int32) < 0 from by decide), if_neg (show ¬ prOk t e th k from fun q => c1 q.2.1), if_pos (.inr c1)]
    have f3 : Fm (fun a k => a = 98 ∨ (a = 88 ∧ k = 19)) w1 (sI (sI (sI w1 98 (2 * k) (1 + -1)) 98 (2 * k + 1) (-1)) 88 19 (nI (k + 1))) := ((Fm.rfl'.sI (.inl rfl)).sI (.inl rfl)).sI (.inr ⟨rfl, rfl⟩)
    refine ⟨_, rfl, (a2.imp (fun _ _ h => Rd_Rp h)).tr (f3.imp (fun a k h => by unfold Rp; omega)), RdM_fr a3 f3 (fun a k h => by omega), fun q => absurd q.2.1 c1, fun i hi => ?_⟩
    rw [gIa (by decide), gIk (by omega), gIk (by omega), (a2 98 i (by unfold Rd; omega)).1]
theorem l_X11_readsPairs {F : Nat} (hF : 100 ≤ F) {t : Nat → Int32} {e th : Nat} (he : e ≤ 23) (x7 : Int32) (kk : Wd → Int32 → Option (Int32 × Wd)) : ∀ m k f w x, 3 * k ≤ e → e < 3 * k + 3 * m → m ≤ f → th + k ≤ 8 → RdM w t e (3 * k) → gI w 88 19 = nI k → ∃ w2, L_X11_readsPairs_25 F (nI th) x7 kk (f + 1) w x 1 = kk w2 (if (wQ t e th m k).1 = true then 1 else 0) ∧ Fm Rp w w2 ∧ RdM w2 t e (wQ t e th m k).2.1 ∧ ((wQ t e th m k).1 = true → gI w2 88 19 = nI (wQ t e th m k).2.2 ∧ ∀ i, k ≤ i → i < (wQ t e th m k).2.2 → gI w2 98 (2 * i) = fsP t e i ∧ gI w2 98 (2 * i + 1) = scP t e i) ∧ ∀ i, i < 2 * k → gI w2 98 i = gI w 98 i := by
  intro m
  induction m with
  | zero => intro k f w x h1 h2; omega
  | succ m ih =>
    intro k f w x h1 h2 h3 h4 h5 h6
    obtain ⟨f, rfl⟩ : ∃ q, f = q + 1 := ⟨f - 1, by omega⟩
    obtain ⟨w1, a1, a2, a3, a4, a5⟩ := v_X11_readsPair hF h5 h4 h6
    have stop : ∀ v y, L_X11_readsPairs_25 F (nI th) x7 kk (f + 1) v y 0 = kk v y := fun v y => by rw [L_X11_readsPairs_25, if_pos rfl]
    rw [L_X11_readsPairs_25, if_neg (show ¬ (1 : Int32) = 0 from by decide), bnd_r a1, wQ]
    by_cases c0 : th + k = 8 ∨ ¬ o1P t e (3 * k)
    · rw [if_pos c0] at a3
      rw [if_neg (show ¬ prOk t e th k from fun q => c0.elim q.1 (fun z => z q.2.1)), if_pos (show (0 : Int32) = 0 from rfl), if_pos c0]
      refine ⟨w1, ?_, a2, a3, fun q => absurd (show false = true from q) (by decide), a5⟩
      show L_X11_readsPairs_25 F (nI th) x7 kk (f + 1) w1 0 0 = _
      rw [stop]; rfl
    rw [if_neg c0] at a3 ⊢
    have g1 : o1P t e (3 * k) := by
      by_cases z : o1P t e (3 * k)
      · exact z
      · exact absurd (.inr z) c0
    have g0 : ¬ th + k = 8 := fun z => c0 (.inl z)
    by_cases c2 : dgP t e (3 * k + 1)
    · have hp : prOk t e th k := ⟨g0, g1, c2⟩
      obtain ⟨q1, q2, q3⟩ := a4 hp
      have nc2 : ¬ ¬ dgP t e (3 * k + 1) := fun z => z c2
      rw [if_neg nc2] at a3
      rw [if_neg nc2, if_pos hp, if_neg (show ¬ (1 : Int32) = 0 from by decide)]
      obtain ⟨w2, b1, b2, b3⟩ := v_X11_isNext F a3 59 (by decide)
      have bf : Fm Rp w w2 := a2.tr (b2.imp (fun _ _ h => Rd_Rp h))
      have b19 : gI w2 88 19 = nI (k + 1) := by rw [(b2 88 19 (by unfold Rd; omega)).1]; exact q1
      have b98 : ∀ i, gI w2 98 i = gI w1 98 i := fun i => (b2 98 i (by unfold Rd; omega)).1
      rw [bnd_r b1, lt_v]
      by_cases c3 : atP t e (3 * k + 2) = 59
      · rw [if_pos c3] at b3 ⊢
        rw [if_neg (show ¬ (1 : Int32) = 0 from by decide), if_pos c3]
        have hl := b3.2.2.2.1
        obtain ⟨w3, d1, d2, d3, d4, d5⟩ := ih (k + 1) f w2 1 hl (by omega) (by omega) (by omega) b3 b19
        refine ⟨w3, d1, bf.tr d2, d3, fun hs => ⟨(d4 hs).1, fun i hi1 hi2 => ?_⟩, fun i hi => ?_⟩
        · by_cases ei : i = k
          · rw [ei, d5 _ (by omega), d5 _ (by omega), b98, b98]; exact ⟨q2, q3⟩
          · exact (d4 hs).2 i (by omega) hi2
        · rw [d5 i (by omega), b98]; exact a5 i hi
      · rw [if_neg c3] at b3 ⊢
        rw [if_pos (show (0 : Int32) = 0 from rfl), if_neg c3, stop]
        refine ⟨w2, rfl, bf, b3, fun _ => ⟨b19, fun i hi1 hi2 => ?_⟩, fun i hi => by rw [b98]; exact a5 i hi⟩
        obtain rfl : i = k := by have hi2 : i < k + 1 := hi2; omega
        rw [b98, b98]; exact ⟨q2, q3⟩
    · rw [if_pos c2] at a3 ⊢
      rw [if_neg (show ¬ prOk t e th k from fun q => c2 q.2.2), if_pos (show (0 : Int32) = 0 from rfl)]
      refine ⟨w1, ?_, a2, a3, fun q => absurd (show false = true from q) (by decide), a5⟩
      show L_X11_readsPairs_25 F (nI th) x7 kk (f + 1) w1 0 0 = _
      rw [stop]; rfl
def Rq (a k : Nat) : Prop := Bg a k ∨ Rp a k
theorem v_X11_readsPairs {F : Nat} (hF : 100 ≤ F) {w : Wd} {t : Nat → Int32} {n th : Nat} (hx : TxM w t n) (h8 : th ≤ 8) : ∃ w2, P_X11_readsPairs F w (nI th) = some (wtG t n th, w2) ∧ Fm Rq w w2 ∧ gI w2 88 14 = 0 ∧ (¬ wtG t n th < 0 → gI w2 88 19 = nI (wS t n th).2.2 ∧ ∀ i, i < (wS t n th).2.2 → gI w2 98 (2 * i) = fsP t n i ∧ gI w2 98 (2 * i + 1) = scP t n i) := by
  have hn := hx.2.1
  have hws := wS_ok (t := t) (th := th) hn h8
  unfold P_X11_readsPairs
  obtain ⟨w1, a1, a2, a3, a4, -⟩ := v_X11_begins F hx 23 (by decide)
  rw [bnd_r (show P_X11_begins F w 23 = _ from a1), lt_v, lt_v]
  have f2 : Fm (fun a k => a = 88 ∧ k = 19) w1 (sI w1 88 19 0) := Fm.rfl'.sI ⟨rfl, rfl⟩
  have a3' : RdM (sI w1 88 19 0) t (min n 23) 0 := RdM_fr a3 f2 (fun a k h => by omega)
  have fA : Fm Rq w (sI w1 88 19 0) := (a2.imp (fun _ _ h => .inl h)).tr (f2.imp (fun a k h => .inr (.inl ⟨h.1, .inr h.2⟩)))
  have read : ∃ w2, L_X11_readsPairs_25 F (nI th) (nI n) (fun w x10 => bnd (P_X11_faultOf F w (nI n) 23 x10) (fun x24 w23 => some (x24, w23))) F (sI w1 88 19 0) 1 (if nI n ≤ 0 then 0 else 1) = bnd (P_X11_faultOf F w2 (nI n) 23 (if (wS t n th).1 = true then 1 else 0)) (fun x24 w23 => some (x24, w23)) ∧ Fm Rp (sI w1 88 19 0) w2 ∧ RdM w2 t (min n 23) (wS t n th).2.1 ∧ ((wS t n th).1 = true → gI w2 88 19 = nI (wS t n th).2.2 ∧ ∀ i, i < (wS t n th).2.2 → gI w2 98 (2 * i) = fsP t (min n 23) i ∧ gI w2 98 (2 * i + 1) = scP t (min n 23) i) := by
    generalize hk : (fun (w : Wd) (x10 : Int32) => bnd (P_X11_faultOf F w (nI n) 23 x10) (fun x24 w23 => some (x24, w23))) = kk
    have hkk : ∀ v x, kk v x = bnd (P_X11_faultOf F v (nI n) 23 x) (fun x24 w23 => some (x24, w23)) := fun v x => by rw [← hk]
    obtain ⟨f, hf⟩ : ∃ q, F = q + 1 := ⟨F - 1, by omega⟩
    by_cases c0 : n = 0
    · subst c0
      rw [if_pos (show nI 0 ≤ 0 from by decide)]
      have hz : ∀ G, L_X11_readsPairs_25 G (nI th) (nI 0) kk F (sI w1 88 19 0) 1 0 = kk (sI w1 88 19 0) 1 := fun G => by rw [hf, L_X11_readsPairs_25, if_pos rfl]
      rw [hz F, hkk]
      exact ⟨_, rfl, Fm.rfl', a3', fun _ => ⟨gIs, fun i hi => absurd hi (Nat.not_lt_zero _)⟩⟩
    · have ew : wS t n th = wQ t (min n 23) th 9 0 := by unfold wS; rw [if_neg c0]
      rw [if_neg (nI_nle (by omega) (by omega))]
      obtain ⟨w2, b1, b2, b3, b4, -⟩ := l_X11_readsPairs (F := F) hF (e := min n 23) (by omega) (nI n) kk 9 0 f (sI w1 88 19 0) 1 (by omega) (by omega) (by omega) (by omega) a3' gIs
      rw [← ew] at b1 b3 b4
      have b1' : L_X11_readsPairs_25 F (nI th) (nI n) kk F (sI w1 88 19 0) 1 1 = kk w2 (if (wS t n th).1 = true then 1 else 0) := by
        have hz : ∀ G H, H = f + 1 → L_X11_readsPairs_25 G (nI th) (nI n) kk H (sI w1 88 19 0) 1 1 = L_X11_readsPairs_25 G (nI th) (nI n) kk (f + 1) (sI w1 88 19 0) 1 1 := fun G H e => by rw [e]
        rw [hz F F hf]; exact b1
      rw [b1', hkk]
      exact ⟨w2, rfl, b2, b3, fun hs => ⟨(b4 hs).1, fun i hi => (b4 hs).2 i (Nat.zero_le _) hi⟩⟩
  obtain ⟨w2, b1, b2, b3, b4⟩ := read
  have ft : P_X11_faultOf F w2 (nI n) 23 (if (wS t n th).1 = true then 1 else 0) = some (wtG t n th, w2) := v_X11_faultOf F b3 hn (by decide) ((wS t n th).1 = true)
  rw [b1, bnd_r ft]
  refine ⟨w2, rfl, fA.tr (b2.imp (fun _ _ h => .inr h)), by rw [(b2 88 14 (by unfold Rp; omega)).1, gIk (by decide)]; exact a4, fun hg => ?_⟩
  rcases cq_ft n (wS t n th).2.1 (wS t n th).1 hn hws.1 with ⟨-, -, c3, c4, -⟩ | ⟨-, -, q⟩
  · rw [show min n 23 = n from by omega] at b4
    exact b4 c4
  · exact absurd q hg
