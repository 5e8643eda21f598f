-- ===== a watch: the model does it =====
def Dm (a k : Nat) : Prop := a = 95 ∨ Sc a k
theorem rM_same {w : Wd} {a k : Nat} (hk : k < 16) {w2 : Wd} (h : w2 = sI w a k (gI w a k)) : rM w2 a = rM w a := by
  rw [h, rM_set hk]
  funext j
  by_cases c : j = k
  · rw [if_pos c, c, rM_k hk]
  · rw [if_neg c]
theorem v_X11_changes {F : Nat} {w : Wd} {r : Nat} (hr : r ≤ 8) (er : gI w 88 3 = nI r) (hq : okRq (rM w 95) r) (x y : Int32) : ∃ w2, P_X11_changes F w x y = some (if (rvP r (rM w 95) x y).1 < 0 then 0 else 1, w2) ∧ Fm (R8 95) w w2 ∧ rM w2 95 = (rvP r (rM w 95) x y).2 := by
  have i8 : inB 8 16 = true := rfl
  have e8 : gI w 95 8 = rM w 95 8 := (rM_k (by decide)).symm
  have back : ∀ v : Wd, sI v 95 8 (rM w 95 8) = sI v 95 8 (rM w 95 8) → rM (sI v 95 8 (rM w 95 8)) 95 = setR (rM v 95) (rM w 95 8) := fun v _ => by rw [rM_set (by decide)]; rfl
  unfold P_X11_changes K_X11_changes_36 K_X11_changes_37 rvP
  obtain ⟨w1, a1, a2, a3⟩ := v_X11_leaves (F := F) hr er (a := 95) (.inl rfl) x
  rw [gd_t i8, lt_v, bnd_r a1, e8]
  by_cases c : (lvP r (rM w 95) x).1 < 0
  · rw [if_pos c, if_pos c, if_pos c, if_pos rfl, gd_t i8, lt_v]
    refine ⟨_, rfl, a2.sI ⟨rfl, rfl⟩, ?_⟩
    rw [back _ rfl, a3]
    rw [lv_back hr hq x, lv_bad hr hq x c]
  · have e1 : gI w1 88 3 = nI r := by rw [(a2 88 3 (by unfold R8; omega)).1]; exact er
    have hq1 : okRq (rM w1 95) r := by rw [a3]; exact (lvP_ok hr hq x).1
    obtain ⟨w2, b1, b2, b3⟩ := v_X11_takes (F := F) hr e1 (a := 95) (.inl rfl) hq1 y
    rw [a3] at b1 b3
    rw [if_neg c, if_neg c, bnd_r b1, lt_v]
    by_cases d : (tkP r (lvP r (rM w 95) x).2 y).1 < 0
    · rw [if_pos d, if_pos d, if_pos d, if_pos rfl, gd_t i8, lt_v]
      refine ⟨_, rfl, (a2.tr b2).sI ⟨rfl, rfl⟩, ?_⟩
      rw [back _ rfl, b3, tk_bad hr (lvP_ok hr hq x).1 y d]
      exact lv_back hr hq x
    · rw [if_neg d, if_neg d, if_neg d, if_neg (show ¬ (1 : Int32) = 0 from by decide), gd_t i8, gd_t i8, lt_v]
      exact ⟨_, rfl, (a2.tr b2).sI ⟨rfl, rfl⟩, by rw [rM_same (by decide) rfl]; exact b3⟩
theorem v_X11_does {F : Nat} (hF : 2000 ≤ F) {w : Wd} {T : Tw} {b : Bl} {r p N K : Nat} (g : MG w T b r p N) (hb : BlI b r p K) {t : Nat → Int32} {e i q : Nat} (hi : i < 60) (he : EnM w t e i q) : ∃ w2, P_X11_does F w (nI i) = some (if (xP T r b (acP t e q)).1 < 0 then 0 else 1, w2) ∧ Fm Dm w w2 ∧ rM w2 95 = (xP T r b (acP t e q)).2 := by
  have hin : inB (nI i) 60 = true := inB_n hi (by omega)
  have hcl : (nI i).toNatClampNeg = i := nI_clamp (by omega)
  have hr := g.1.1
  have er : gI w 88 3 = nI r := g.2.1.1
  have eb := g.2.2.1
  have hq : okRq (rM w 95) r := by rw [eb]; exact hb.2.1
  obtain ⟨h4, h5, h6⟩ := he
  have Q8 : ∀ a k, R8 95 a k → Dm a k := fun a k h => .inl h.1
  unfold P_X11_does
  rw [hcl, gd_t hin, lt_v, gd_t hin, h4, h5]
  have hsg : (acP t e q).1 = sgP t e q := rfl
  rcases sg5 (atP t e q) with ⟨-, c2⟩ | ⟨-, c2⟩ | ⟨-, c2⟩ | ⟨-, c2⟩ | ⟨-, c2⟩
  · have hs : (acP t e q).1 = 0 := c2
    have ex : xP T r b (acP t e q) = tkP r b (acP t e q).2.1 := by unfold xP; rw [hs, if_pos (show (0 : Int32) = 0 from rfl)]
    obtain ⟨w2, a1, a2, a3⟩ := v_X11_takes (F := F) hr er (a := 95) (.inl rfl) hq (acP t e q).2.1
    rw [eb] at a1 a3
    rw [hs, if_pos (show (0 : Int32) = 0 from rfl), bnd_r a1, lt_v, gd_t isZO_i, ex]
    exact ⟨w2, rfl, a2.imp Q8, a3⟩
  · have hs : (acP t e q).1 = 1 := c2
    have ex : xP T r b (acP t e q) = lvP r b (acP t e q).2.1 := by unfold xP; rw [hs, if_neg (show ¬ (1 : Int32) = 0 from by decide), if_pos (show (1 : Int32) = 1 from rfl)]
    obtain ⟨w2, a1, a2, a3⟩ := v_X11_leaves (F := F) hr er (a := 95) (.inl rfl) (acP t e q).2.1
    rw [eb] at a1 a3
    rw [hs, if_neg (show ¬ (1 : Int32) = 0 from by decide), if_pos (show (1 : Int32) = 1 from rfl), bnd_r a1, lt_v, gd_t isZO_i, ex]
    exact ⟨w2, rfl, a2.imp Q8, a3⟩
  · have hs : (acP t e q).1 = 2 := c2
    have ex : xP T r b (acP t e q) = rvP r b (acP t e q).2.1 (acP t e q).2.2 := by unfold xP; rw [hs, if_neg (show ¬ (2 : Int32) = 0 from by decide), if_neg (show ¬ (2 : Int32) = 1 from by decide), if_pos (show (2 : Int32) = 2 from rfl)]
    obtain ⟨w2, a1, a2, a3⟩ := v_X11_changes (F := F) hr er hq (acP t e q).2.1 (acP t e q).2.2
    rw [eb] at a1 a3
    rw [hs, if_neg (show ¬ (2 : Int32) = 0 from by decide), if_neg (show ¬ (2 : Int32) = 1 from by decide), if_pos (show (2 : Int32) = 2 from rfl), gd_t hin, h6 hs, bnd_r a1, gd_t isZO_i, ex]
    exact ⟨w2, rfl, a2.imp Q8, a3⟩
  · have hs : (acP t e q).1 = 3 := c2
    have ex : xP T r b (acP t e q) = mnP b (acP t e q).2.1 := by unfold xP; rw [hs, if_neg (show ¬ (3 : Int32) = 0 from by decide), if_neg (show ¬ (3 : Int32) = 1 from by decide), if_neg (show ¬ (3 : Int32) = 2 from by decide), if_pos (show (3 : Int32) = 3 from rfl)]
    obtain ⟨w2, a1, a2, a3⟩ := v_X11_mends F w (acP t e q).2.1
    rw [eb] at a1 a3
    rw [hs, if_neg (show ¬ (3 : Int32) = 0 from by decide), if_neg (show ¬ (3 : Int32) = 1 from by decide), if_neg (show ¬ (3 : Int32) = 2 from by decide), if_pos (show (3 : Int32) = 3 from rfl), bnd_r a1, lt_v, gd_t isZO_i, ex]
    exact ⟨w2, rfl, a2.imp (fun a k h => .inl h.1), a3⟩
  · have hs : (acP t e q).1 = -1 := c2
    have ex : xP T r b (acP t e q) = psP T b (acP t e q).2.1 := by unfold xP; rw [hs, if_neg (show ¬ (-1 : Int32) = 0 from by decide), if_neg (show ¬ (-1 : Int32) = 1 from by decide), if_neg (show ¬ (-1 : Int32) = 2 from by decide), if_neg (show ¬ (-1 : Int32) = 3 from by decide)]
    have ev : ∃ y : Nat, (acP t e q).2.1 = nI y ∧ y < 1000 := by
      show ∃ y : Nat, valP t e (if sgP t e q = 2 then 1 else mS (sgP t e q)) (p1P t e q) 0 = nI y ∧ y < 1000
      refine val_nn ?_
      split
      · decide
      · exact mS_le _
    obtain ⟨y, y1, y2⟩ := ev
    have hps := (BlI_ps g.1 hb (acP t e q).2.1).2
    rw [hs, if_neg (show ¬ (-1 : Int32) = 0 from by decide), if_neg (show ¬ (-1 : Int32) = 1 from by decide), if_neg (show ¬ (-1 : Int32) = 2 from by decide), if_neg (show ¬ (-1 : Int32) = 3 from by decide), ex]
    rw [y1] at hps ⊢
    have ny : ¬ nI y < 0 := nI_pos (by omega)
    by_cases c : nI y ≤ 120
    · have c2 : y ≤ 120 := (nI_leI (a := y) (b := 120) (by omega) (by decide)).mp c
      rw [if_pos c, if_neg (show ¬ (psP T b (nI y)).1 < 0 from fun h => (hps.mp h).elim ny (fun h => h c))]
      obtain ⟨w2, a1, a2, a3, -⟩ := ms_goesOn hF g.1 (a := 95) (.inl rfl) g.2.1 (by rw [eb]; exact g.2.2.2) y (by omega)
      rw [eb] at a3
      rw [bnd_r a1]
      refine ⟨w2, rfl, a2.imp (fun a k h => h), ?_⟩
      rw [a3]; unfold psP; rw [if_neg ny, if_pos c, nI_clamp (by omega)]
    · rw [if_neg c, if_pos (show (psP T b (nI y)).1 < 0 from hps.mpr (.inr c))]
      refine ⟨w, rfl, Fm.rfl', ?_⟩
      rw [eb]; unfold psP; rw [if_neg ny, if_neg c]
theorem Dm_Mp {a k : Nat} (h : Dm a k) : ¬ Mp a k := by unfold Dm Sc at h; unfold Mp; omega
theorem EnM_fr {q : Nat → Nat → Prop} {w w2 : Wd} {t : Nat → Int32} {e i p : Nat} (h : EnM w t e i p) (f : Fm q w w2) (hq : ∀ a k, q a k → ¬ (104 ≤ a ∧ a ≤ 106)) : EnM w2 t e i p :=
  ⟨by rw [(f 104 i (fun h => hq _ _ h (by omega))).1]; exact h.1, by rw [(f 105 i (fun h => hq _ _ h (by omega))).1]; exact h.2.1, fun z => by rw [(f 106 i (fun h => hq _ _ h (by omega))).1]; exact h.2.2 z⟩
theorem l_X11_watchX {F : Nat} (hF : 2000 ≤ F) (x29 : Int32) (kk : Wd → Int32 → Option (Int32 × Wd)) {T : Tw} {r p N : Nat} {t : Nat → Int32} {e : Nat} : ∀ (l : List Nat) (i f K : Nat) (w : Wd) (b : Bl), l.length < f → i + l.length ≤ 60 → MG w T b r p N → BlI b r p K → gI w 88 31 = nI (i + l.length) → (∀ j, j < l.length → EnM w t e (i + j) (l.getD j 0)) → ∃ w2, L_X11_watch_94 F x29 kk f w (nI i) = kk w2 (nI (rnP T r t e l i b).2.1) ∧ Fm Dm w w2 ∧ rM w2 95 = (rnP T r t e l i b).2.2 := by
  intro l
  induction l with
  | nil =>
    intro i f K w b hf hi g hb e31 hE
    obtain ⟨f, rfl⟩ : ∃ q, f = q + 1 := ⟨f - 1, by have : (0 : Nat) < f := hf; omega⟩
    rw [L_X11_watch_94, e31, if_pos (show nI (i + ([] : List Nat).length) ≤ nI i from Int32.le_refl _)]
    exact ⟨w, rfl, Fm.rfl', g.2.2.1⟩
  | cons q l ih =>
    intro i f K w b hf hi g hb e31 hE
    have el : (q :: l).length = l.length + 1 := rfl
    obtain ⟨f, rfl⟩ : ∃ z, f = z + 1 := ⟨f - 1, by omega⟩
    obtain ⟨w1, a1, a2, a3⟩ := v_X11_does hF g hb (t := t) (e := e) (i := i) (q := q) (by omega) (hE 0 (by omega))
    rw [L_X11_watch_94, e31, if_neg (nI_ge (by omega) (by omega)), bnd_r a1, rnP]
    by_cases c : (xP T r b (acP t e q)).1 < 0
    · rw [if_pos c, if_pos rfl, if_pos c]
      exact ⟨w1, rfl, a2, a3⟩
    · rw [if_neg c, if_neg (show ¬ (1 : Int32) = 0 from by decide), if_neg c, lt_v, nI_1]
      have hx := BlI_x g.1 hb (acP t e q)
      have g1 : MG w1 T (xP T r b (acP t e q)).2 r p N := ⟨g.1, MT_fr a2 (fun _ _ h => Dm_Mp h) g.2.1, a3, hx.1⟩
      obtain ⟨w2, b1, b2, b3⟩ := ih (i + 1) f (K + 120) w1 _ (by omega) (by omega) g1 hx (by rw [(a2 88 31 (by unfold Dm Sc; omega)).1, e31]; congr 1; omega) (fun j hj => by
        have := hE (j + 1) (by omega)
        rw [show i + 1 + j = i + (j + 1) from by omega]
        exact EnM_fr this a2 (fun a k h => by unfold Dm Sc at h; omega))
      exact ⟨w2, b1, a2.tr b2, b3⟩
