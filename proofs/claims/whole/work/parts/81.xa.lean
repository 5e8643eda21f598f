-- ===== a watch, the model =====
def Wm (a k : Nat) : Prop := MPmt a k ∨ Bg a k ∨ Ra a k
theorem Wm_Mp {a k : Nat} (h : Wm a k) : ¬ Mp a k := by unfold Wm MPmt MPm Bg Ra Tm Sc PaM at h; unfold Mp; omega
theorem v_X11_watch {F : Nat} (hF : 2000 ≤ F) {w : Wd} {T : Tw} {b : Bl} {r p N K : Nat} (g : MG w T b r p N) (hb : BlI b r p K) {u : Us} (h : PsM w u) {t : Nat → Int32} {n : Nat} (hx : TxM w t n) : ∃ w2, P_X11_watch F w = some ((qWatch T r b t n).1, w2) ∧ Fm Wm w w2 ∧ rM w2 95 = bWatch T r b t n ∧ PsM w2 (uWatch T r b t n u) ∧ tqM (qWatch T r b t n).2 w w2 ∧ TxM w2 t 0 := by
  have hn := hx.2.1
  have hwl := wR_le t n
  have nx : ∀ v : Wd, gI v 88 14 = 0 → TxM v t 0 := fun v hv => ⟨hv, by omega, fun k hk => absurd hk (Nat.not_lt_zero _)⟩
  have f0 : Fm (fun a k => a = 88 ∧ k = 0) w (sI w 88 0 0) := Fm.rfl'.sI ⟨rfl, rfl⟩
  have hx0 : TxM (sI w 88 0 0) t n := ⟨by rw [gIk (by decide)]; exact hx.1, hn, fun k hk => by rw [gIa (by decide)]; exact hx.2.2 k hk⟩
  unfold P_X11_watch
  obtain ⟨w1, a1, a2, a3, a4, -⟩ := v_X11_begins F hx0 60 (by decide)
  rw [lt_v, bnd_r (show P_X11_begins F (sI w 88 0 0) 60 = _ from a1), lt_v, lt_v]
  have f2 : Fm (fun a k => a = 88 ∧ k = 31) w1 (sI w1 88 31 0) := Fm.rfl'.sI ⟨rfl, rfl⟩
  have fA : Fm Wm w (sI w1 88 31 0) := ((f0.imp (fun a k h => by unfold Wm MPmt MPm PaM; omega)).tr (a2.imp (fun _ _ h => .inr (.inl h)))).tr (f2.imp (fun a k h => .inr (.inr (.inl ⟨h.1, .inr h.2⟩))))
  have read : ∃ w2, L_X11_watch_29 F (nI n) (fun w x10 => bnd (P_X11_faultOf F w (nI n) 60 x10) (fun x24 w23 => (if (0 : Int32) ≤ x24 then bnv (P_X11_putsBy F w23 ) (fun w26 => gd (inB 13 16) (lt (gI w26 95 13 : Int32) (fun x28 => L_X11_watch_94 F x28 (fun w x31 => K_X11_watch_118 F   w x28 x31) F w26 0))) else some (x24, w23)))) F (sI w1 88 31 0) 1 (if nI n ≤ 0 then 0 else 1) = bnd (P_X11_faultOf F w2 (nI n) 60 (if (wR t n).1 = true then 1 else 0)) (fun x24 w23 => (if (0 : Int32) ≤ x24 then bnv (P_X11_putsBy F w23 ) (fun w26 => gd (inB 13 16) (lt (gI w26 95 13 : Int32) (fun x28 => L_X11_watch_94 F x28 (fun w x31 => K_X11_watch_118 F   w x28 x31) F w26 0))) else some (x24, w23))) ∧ Fm Ra (sI w1 88 31 0) w2 ∧ RdM w2 t (min n 60) (wR t n).2.1 ∧ gI w2 88 31 = nI (wR t n).2.2.length ∧ ((wR t n).1 = true → ∀ i, i < (wR t n).2.2.length → EnM w2 t (min n 60) i ((wR t n).2.2.getD i 0)) := by
    have a3' : RdM (sI w1 88 31 0) t (min n 60) 0 := RdM_fr a3 f2 (fun a k h => by omega)
    by_cases c0 : n = 0
    · subst c0
      obtain ⟨f, hf⟩ : ∃ q, F = q + 1 := ⟨F - 1, by omega⟩
      rw [if_pos (show nI 0 ≤ 0 from by decide)]
      generalize hk : (fun (w : Wd) (x10 : Int32) => bnd (P_X11_faultOf F w (nI 0) 60 x10) (fun x24 w23 => (if (0 : Int32) ≤ x24 then bnv (P_X11_putsBy F w23 ) (fun w26 => gd (inB 13 16) (lt (gI w26 95 13 : Int32) (fun x28 => L_X11_watch_94 F x28 (fun w x31 => K_X11_watch_118 F   w x28 x31) F w26 0))) else some (x24, w23)))) = kk
      have hz : ∀ G, L_X11_watch_29 G (nI 0) kk F (sI w1 88 31 0) 1 0 = kk (sI w1 88 31 0) 1 := fun G => by rw [hf, L_X11_watch_29, if_pos rfl]
      rw [hz F, ← hk]
      exact ⟨_, rfl, Fm.rfl', a3', gIs, fun _ i hi => absurd hi (Nat.not_lt_zero _)⟩
    · have ew : wR t n = wP t (min n 60) 61 0 := by unfold wR; rw [if_neg c0]
      obtain ⟨f, hf⟩ : ∃ q, F = q + 1 := ⟨F - 1, by omega⟩
      rw [if_neg (nI_nle (by omega) (by omega))]
      generalize hk : (fun (w : Wd) (x10 : Int32) => bnd (P_X11_faultOf F w (nI n) 60 x10) (fun x24 w23 => (if (0 : Int32) ≤ x24 then bnv (P_X11_putsBy F w23 ) (fun w26 => gd (inB 13 16) (lt (gI w26 95 13 : Int32) (fun x28 => L_X11_watch_94 F x28 (fun w x31 => K_X11_watch_118 F   w x28 x31) F w26 0))) else some (x24, w23)))) = kk
      obtain ⟨w2, b1, b2, b3, b4, b5, -⟩ := l_X11_watchR (F := F) (by omega) (e := min n 60) (by omega) (nI n) kk 61 0 0 f (sI w1 88 31 0) 1 (by omega) (by omega) (by omega) (by omega) a3' gIs
      rw [← ew] at b1 b3 b4 b5
      have b1' : L_X11_watch_29 F (nI n) kk F (sI w1 88 31 0) 1 1 = kk w2 (if (wR t n).1 = true then 1 else 0) := by
        have hz : ∀ G H, H = f + 1 → L_X11_watch_29 G (nI n) kk H (sI w1 88 31 0) 1 1 = L_X11_watch_29 G (nI n) kk (f + 1) (sI w1 88 31 0) 1 1 := fun G H e => by rw [e]
        rw [hz F F hf]; exact b1
      rw [b1', ← hk]
      refine ⟨w2, rfl, b2, b3, by rw [b4, Nat.zero_add], fun hs i hi => ?_⟩
      have := b5 hs i hi
      rw [Nat.zero_add] at this; exact this
  obtain ⟨w2, b1, b2, b3, b4, b5⟩ := read
  rw [b1]
  have fB : Fm Wm w w2 := fA.tr (b2.imp (fun _ _ h => .inr (.inr h)))
  have fP : Fm (fun a k => ¬ (a = 103 ∨ (a = 88 ∧ k = 26) ∨ a = 95 ∨ Mp a k)) w w2 := ((f0.imp (fun a k h => by unfold Mp; omega)).tr (a2.imp (fun a k h => by unfold Bg at h; unfold Mp; omega))).tr ((f2.imp (fun a k h => by unfold Mp; omega)).tr (b2.imp (fun a k h => by unfold Ra at h; unfold Mp; omega)))
  have p2 : PsM w2 u := PsM_fr h fP (fun a k h => by omega)
  have g2 : MG w2 T b r p N := MG_fr g fP (fun a k h => ⟨fun m => h (.inr (.inr (.inr m))), fun e => h (.inr (.inr (.inl e)))⟩)
  have k14 : gI w2 88 14 = 0 := by rw [(b2 88 14 (by unfold Ra; omega)).1, gIk (by decide)]; exact a4
  have ft : P_X11_faultOf F w2 (nI n) 60 (if (wR t n).1 = true then 1 else 0) = some (wtF t n, w2) := v_X11_faultOf F b3 hn (by decide) ((wR t n).1 = true)
  rw [bnd_r ft]
  by_cases c3 : wtF t n < 0
  · rw [if_neg (Int32.not_le.mpr c3)]
    unfold qWatch bWatch uWatch
    rw [if_pos c3, if_pos c3, if_pos c3]
    have k1 : gI w2 88 1 = gI w 88 1 := by rw [(b2 88 1 (by unfold Ra; omega)).1, (f2 88 1 (by omega)).1, (a2 88 1 (by unfold Bg; omega)).1, (f0 88 1 (by omega)).1]
    have k89 : ∀ k, gJ w2 89 k = gJ w 89 k := fun k => by rw [(b2 89 k (by unfold Ra; omega)).2.1, (f2 89 k (by omega)).2.1, (a2 89 k (by unfold Bg; omega)).2.1, (f0 89 k (by omega)).2.1]
    exact ⟨w2, rfl, fB, g2.2.2.1, p2, ⟨k1, k89⟩, nx _ k14⟩
  · rw [if_pos (Int32.not_lt.mp c3)]
    have hs : (wR t n).1 = true := by
      rcases cf_ft n (wR t n).2.1 (wR t n).1 hn hwl.1 with ⟨-, -, -, q, -⟩ | ⟨-, -, q⟩
      · exact q
      · exact absurd q c3
    obtain ⟨w3, d1, d2, d3, d4⟩ := v_X11_putsBy (F := F) (by omega) p2
    have fC : Fm Wm w w3 := fB.tr (d2.imp (fun a k h => by unfold Wm MPmt MPm PaM; omega))
    have g3 : MG w3 T b r p N := MG_fr g2 d2 (fun a k h => by unfold Mp; omega)
    have k13 : gI w3 95 13 = b 13 := by rw [← g3.2.2.1]; rfl
    rw [bnv_r d1, gd_t (show inB 13 16 = true from rfl), lt_v, k13]
    have e31 : gI w3 88 31 = nI (0 + (wR t n).2.2.length) := by rw [(d2 88 31 (by omega)).1, b4, Nat.zero_add]
    obtain ⟨w4, m1, m2, m3⟩ := l_X11_watchX (F := F) hF (b 13) (fun w x31 => K_X11_watch_118 F w (b 13) x31) (T := T) (t := t) (e := min n 60) (wR t n).2.2 0 F K w3 b (by omega) (by omega) g3 hb e31 (fun j hj => by
      rw [Nat.zero_add]; exact EnM_fr (b5 hs j hj) d2 (fun a k h => by omega))
    have m1 : L_X11_watch_94 F (b 13) (fun w x31 => K_X11_watch_118 F w (b 13) x31) F w3 0 = K_X11_watch_118 F w4 (b 13) (nI (wtP T r b t n).2.1) := m1
    have m3 : rM w4 95 = (wtP T r b t n).2.2 := m3
    rw [m1]
    unfold K_X11_watch_118 qWatch bWatch uWatch
    rw [if_neg c3, if_neg c3, if_neg c3]
    have hrl := rn_len T r t (min n 60) (wR t n).2.2 0 b
    have hd : (wtP T r b t n).2.1 ≤ 31 := by have := hrl.1; unfold wtP; omega
    have hrf : (wtP T r b t n).1 = true ↔ (wtP T r b t n).2.1 < (wR t n).2.2.length := by
      have := hrl.2; rw [Nat.zero_add] at this; exact this
    have t0 : Fm Tm w4 (sI w4 88 1 0) := Fm.rfl'.sI (.inl ⟨rfl, rfl⟩)
    have k31 : gI (sI w4 88 1 0) 88 31 = nI (wR t n).2.2.length := by rw [gIk (by decide), (m2 88 31 (by unfold Dm Sc; omega)).1, e31, Nat.zero_add]
    have efl : (if nI (wR t n).2.2.length ≤ nI (wtP T r b t n).2.1 then (0 : Int32) else 1) = if (wtP T r b t n).1 = true then 1 else 0 := by
      by_cases z : (wtP T r b t n).1 = true
      · rw [if_pos z, if_neg (nI_ge (hrf.mp z) (by omega))]
      · rw [if_neg z, if_pos (nI_le (by have := mt hrf.mpr z; omega) (by omega))]
    have efg : P_X11_flag F (sI w4 88 1 0) (if (wtP T r b t n).1 = true then 1 else 0) = some (if (wtP T r b t n).1 = true then 1 else 0, sI w4 88 1 0) := by
      rw [v_X11_flag]
      by_cases z : (wtP T r b t n).1 = true
      · rw [if_pos z]; rfl
      · rw [if_neg z]; rfl
    have c13 : ∀ v, Fm Tm w4 v → gI v 95 13 = (wtP T r b t n).2.2 13 := fun v hv => by rw [(hv 95 13 (by unfold Tm; omega)).1, ← m3]; rfl
    rw [lt_v, k31, efl, lt_v, bnd_r efg]
    obtain ⟨v1, q1, q2, q3⟩ := v_X11_enters F (w := sI w4 88 1 0) tlM_0 (by decide) (Int32.toInt64 (if (wtP T r b t n).1 = true then 1 else 0))
    have q4 := t0.tr q2
    rw [bnv_r q1, gd_t (show inB 13 16 = true from rfl), c13 _ q4]
    obtain ⟨v2, s1, s2, s3⟩ := v_X11_enters F (L := [_]) q3 (show 1 < 24 by decide) (Int32.toInt64 ((wtP T r b t n).2.2 13 - b 13))
    have s4 := q4.tr s2
    rw [bnv_r s1]
    have fD : Fm Wm w v2 := (fC.tr (m2.imp (fun a k h => by unfold Dm Sc at h; unfold Wm MPmt MPm Sc; omega))).tr (s4.imp (fun _ _ h => .inl (.inr h)))
    have p3 : PsM w3 u := d3
    have p4 : PsM v2 u := PsM_fr (PsM_fr p3 m2 (fun a k h => by unfold Dm Sc at h; omega)) s4 (fun a k h => by unfold Tm at h; omega)
    have r4 : rM v2 95 = (wtP T r b t n).2.2 := by rw [rM_fr s4 (fun k _ h => by unfold Tm at h; omega)]; exact m3
    have x4 : gI v2 88 14 = 0 := by rw [(s4 88 14 (by unfold Tm; omega)).1, (m2 88 14 (by unfold Dm Sc; omega)).1, (d2 88 14 (by omega)).1]; exact k14
    by_cases c0 : (wtP T r b t n).2.1 = 0
    · rw [if_pos c0, c0, if_pos (show nI 0 ≤ 0 from by decide)]
      exact ⟨v2, rfl, fD, r4, p4, s3, nx _ x4⟩
    · rw [if_neg c0, if_neg (nI_nle (by omega) (by omega))]
      have hk : ∀ k, k < 16 → gI v2 103 (16 * u.length + k) = b k := fun k hk => by
        rw [(s4 103 _ (by unfold Tm; omega)).1, (m2 103 _ (by unfold Dm Sc; omega)).1, d4 k hk, ← g2.2.2.1, rM_k hk]
      obtain ⟨v3, y1, y2, y3⟩ := v_X11_adds (F := F) (by omega) p4 b hk (nI (wtP T r b t n).2.1)
      rw [bnd_r y1]
      refine ⟨v3, rfl, fD.tr (y2.imp (fun a k h => .inl (.inl (.inr (.inr h))))), by rw [rM_fr y2 (fun k _ h => by unfold PaM at h; omega)]; exact r4, y3, ?_, nx _ (by rw [(y2 88 14 (by unfold PaM; omega)).1]; exact x4)⟩
      obtain ⟨t1, t2⟩ := s3
      exact ⟨by rw [(y2 88 1 (by unfold PaM; omega)).1]; exact t1, fun k hk => by rw [(y2 89 k (by unfold PaM; omega)).2.1]; exact t2 k hk⟩
