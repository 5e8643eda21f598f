-- ===== the model: frames by place and slot, its tower and its rows of a minute =====
def Fm (p : Nat → Nat → Prop) (w w2 : Wd) : Prop := ∀ a k, ¬ p a k → gI w2 a k = gI w a k ∧ gJ w2 a k = gJ w a k ∧ gR w2 a k = gR w a k
theorem Fm.rfl' {p : Nat → Nat → Prop} {w : Wd} : Fm p w w := fun _ _ _ => ⟨rfl, rfl, rfl⟩
theorem Fm.tr {p : Nat → Nat → Prop} {w w1 w2 : Wd} (h1 : Fm p w w1) (h2 : Fm p w1 w2) : Fm p w w2 := fun a k h => ⟨(h2 a k h).1.trans (h1 a k h).1, (h2 a k h).2.1.trans (h1 a k h).2.1, (h2 a k h).2.2.trans (h1 a k h).2.2⟩
theorem Fm.imp {p q : Nat → Nat → Prop} {w w1 : Wd} (h1 : Fm p w w1) (hp : ∀ a k, p a k → q a k) : Fm q w w1 := fun a k ha => h1 a k (fun h => ha (hp a k h))
theorem Fm.sI {p : Nat → Nat → Prop} {w w1 : Wd} {a k : Nat} {v : Int32} (h : Fm p w w1) (hp : p a k) : Fm p w (sI w1 a k v) := fun b j hb => by
  refine ⟨?_, (h b j hb).2.1, (h b j hb).2.2⟩
  rw [gI_sI]
  by_cases h1 : b = a
  · by_cases h2 : j = k
    · exact absurd (by rw [h1, h2]; exact hp) hb
    · rw [if_pos h1, if_neg h2]; exact (h b j hb).1
  · rw [if_neg h1]; exact (h b j hb).1
theorem Fm.sJ {p : Nat → Nat → Prop} {w w1 : Wd} {a k : Nat} {v : Int64} (h : Fm p w w1) (hp : p a k) : Fm p w (sJ w1 a k v) := fun b j hb => by
  refine ⟨(h b j hb).1, ?_, (h b j hb).2.2⟩
  rw [gJ_sJ]
  by_cases h1 : b = a
  · by_cases h2 : j = k
    · exact absurd (by rw [h1, h2]; exact hp) hb
    · rw [if_pos h1, if_neg h2]; exact (h b j hb).2.1
  · rw [if_neg h1]; exact (h b j hb).2.1
theorem Fm.ofFr {p : Nat → Prop} {w w1 : Wd} (h : Fr p w w1) : Fm (fun a _ => p a) w w1 := fun a k ha => ⟨(h a ha).1 k, (h a ha).2.1 k, (h a ha).2.2 k⟩
theorem gIs {w : Wd} {a k : Nat} {v : Int32} : gI (sI w a k v) a k = v := by rw [gI_sI, if_pos rfl, if_pos rfl]
theorem gIk {w : Wd} {a k j : Nat} {v : Int32} (h : j ≠ k) : gI (sI w a k v) a j = gI w a j := by rw [gI_sI, if_pos rfl, if_neg h]
theorem gIa {w : Wd} {a k b j : Nat} {v : Int32} (h : b ≠ a) : gI (sI w a k v) b j = gI w b j := by rw [gI_sI, if_neg h]
theorem gd1 {β : Type _} {x : Option β} : gd true x = x := rfl
theorem GL : inB 8 16 = true ∧ inB 9 16 = true ∧ inB 10 16 = true ∧ inB 11 16 = true ∧ inB 12 16 = true ∧ inB 13 16 = true ∧ inB 14 16 = true ∧ inB 15 16 = true ∧ inB 0 7 = true ∧ inB 1 7 = true ∧ inB 2 7 = true ∧ inB 3 7 = true ∧ inB 4 7 = true ∧ inB 5 7 = true ∧ inB 6 7 = true ∧ inB 0 3 = true ∧ inB 1 3 = true ∧ inB 2 3 = true ∧ inB 0 80 = true ∧ isZO 0 = true ∧ isZO 1 = true := ⟨rfl, rfl, rfl, rfl, rfl, rfl, rfl, rfl, rfl, rfl, rfl, rfl, rfl, rfl, rfl, rfl, rfl, rfl, rfl, rfl, rfl⟩
/-- a tower that can be asked: so many ringers, townspeople, words of the rule -/
def okTw (T : Tw) (r p N : Nat) : Prop := r ≤ 8 ∧ p ≤ 8 ∧ T 4 0 = nI r ∧ T 4 1 = nI p ∧ T 6 0 = nI N ∧ okR (T 5) N ∧ (∀ k, r ≤ k → T 0 k = 0 ∧ T 1 k = 0) ∧ (∀ k, p ≤ k → T 2 k = 0 ∧ T 3 k = 0) ∧ (∀ k, ∃ f, f ≤ 9 ∧ T 1 k = nI f) ∧ (∀ k, ∃ f, f ≤ 9 ∧ T 3 k = nI f) ∧ ∃ m, m ≤ 9 ∧ T 4 4 = nI m
/-- the model holds a tower -/
def MT (w : Wd) (T : Tw) (r p N : Nat) : Prop := gI w 88 3 = nI r ∧ gI w 88 4 = nI p ∧ gI w 94 0 = T 4 2 ∧ gI w 94 1 = T 4 3 ∧ gI w 94 2 = T 4 4 ∧ (∀ k, k < r → gI w 90 k = T 0 k ∧ gI w 91 k = T 1 k) ∧ (∀ k, k < p → gI w 92 k = T 2 k ∧ gI w 93 k = T 3 k) ∧ gI w 88 22 = nI N ∧ ∀ k, k < N → gI w 99 k = T 5 k
/-- what the model's tower lies in -/
def Mp (a k : Nat) : Prop := (a = 88 ∧ (k = 3 ∨ k = 4 ∨ k = 22)) ∨ (90 ≤ a ∧ a ≤ 94) ∨ a = 99
theorem MT_fr {q : Nat → Nat → Prop} {w w2 : Wd} {T : Tw} {r p N : Nat} (f : Fm q w w2) (hq : ∀ a k, q a k → ¬ Mp a k) (h : MT w T r p N) : MT w2 T r p N := by
  obtain ⟨h1, h2, h3, h4, h5, h6, h7, h8, h9⟩ := h
  have g : ∀ a k, Mp a k → gI w2 a k = gI w a k := fun a k ha => (f a k (fun hb => hq a k hb ha)).1
  refine ⟨?_, ?_, ?_, ?_, ?_, fun k hk => ⟨?_, ?_⟩, fun k hk => ⟨?_, ?_⟩, ?_, fun k hk => ?_⟩
  · rw [g 88 3 (by unfold Mp; omega)]; exact h1
  · rw [g 88 4 (by unfold Mp; omega)]; exact h2
  · rw [g 94 0 (by unfold Mp; omega)]; exact h3
  · rw [g 94 1 (by unfold Mp; omega)]; exact h4
  · rw [g 94 2 (by unfold Mp; omega)]; exact h5
  · rw [g 90 k (by unfold Mp; omega)]; exact (h6 k hk).1
  · rw [g 91 k (by unfold Mp; omega)]; exact (h6 k hk).2
  · rw [g 92 k (by unfold Mp; omega)]; exact (h7 k hk).1
  · rw [g 93 k (by unfold Mp; omega)]; exact (h7 k hk).2
  · rw [g 88 22 (by unfold Mp; omega)]; exact h8
  · rw [g 99 k (by unfold Mp; omega)]; exact h9 k hk
/-- a row of sixteen numbers -/
def rM (w : Wd) (a : Nat) : Bl := fun k => if k < 16 then gI w a k else 0
theorem rM_k {w : Wd} {a k : Nat} (h : k < 16) : rM w a k = gI w a k := if_pos h
theorem rM_ext {w w2 : Wd} {a a2 : Nat} (h : ∀ k, k < 16 → gI w2 a2 k = gI w a k) : rM w2 a2 = rM w a := by
  funext k
  unfold rM
  by_cases hk : k < 16
  · rw [if_pos hk, if_pos hk, h k hk]
  · rw [if_neg hk, if_neg hk]
theorem rM_fr {q : Nat → Nat → Prop} {w w2 : Wd} {a : Nat} (f : Fm q w w2) (hq : ∀ k, k < 16 → ¬ q a k) : rM w2 a = rM w a := rM_ext (fun k hk => (f a k (hq k hk)).1)
theorem rM_set {w : Wd} {a k : Nat} {v : Int32} (hk : k < 16) : rM (sI w a k v) a = fun j => if j = k then v else rM w a j := by
  funext j
  unfold rM
  by_cases hj : j < 16
  · rw [if_pos hj, if_pos hj, gI_sI, if_pos rfl]
  · rw [if_neg hj, if_neg hj, if_neg (show ¬ j = k by omega)]
/-- the rows on which minutes go -/
def isRw (a : Nat) : Prop := a = 95 ∨ a = 96 ∨ a = 109
theorem rw_len {a : Nat} (h : isRw a) : alen a = 16 := by rcases h with rfl | rfl | rfl <;> rfl
theorem i64le (x y : Int32) : Int32.toInt64 x ≤ Int32.toInt64 y ↔ x ≤ y := by
  rw [Int64.le_iff_toInt_le, Int32.toInt_toInt64, Int32.toInt_toInt64, Int32.le_iff_toInt_le]
theorem i64lt (x y : Int32) : Int32.toInt64 x < Int32.toInt64 y ↔ x < y := by
  rw [Int64.lt_iff_toInt_lt, Int32.toInt_toInt64, Int32.toInt_toInt64, Int32.lt_iff_toInt_lt]
theorem i64eq (x y : Int32) : Int32.toInt64 x = Int32.toInt64 y ↔ x = y := ⟨fun q => by
  have := congrArg Int64.toInt q
  rw [Int32.toInt_toInt64, Int32.toInt_toInt64] at this
  exact i32_ext this, fun q => by rw [q]⟩
theorem lgc_lt (u v : Int32) : lg_cmp (Int32.toInt64 u) (Int32.toInt64 v) < 0 ↔ u < v := by
  show (if Int32.toInt64 v < Int32.toInt64 u then (1 : Int32) else if Int32.toInt64 u = Int32.toInt64 v then 0 else -1) < 0 ↔ _
  by_cases h : v < u
  · rw [if_pos ((i64lt v u).mpr h)]
    refine ⟨fun q => absurd q (by decide), fun q => ?_⟩
    rw [Int32.lt_iff_toInt_lt] at h q
    omega
  · rw [if_neg (fun q => h ((i64lt v u).mp q))]
    by_cases h2 : u = v
    · rw [if_pos ((i64eq u v).mpr h2)]
      refine ⟨fun q => absurd q (by decide), fun q => ?_⟩
      rw [h2, Int32.lt_iff_toInt_lt] at q
      omega
    · rw [if_neg (fun q => h2 ((i64eq u v).mp q))]
      refine ⟨fun _ => ?_, fun _ => by decide⟩
      rw [Int32.lt_iff_toInt_lt] at h ⊢
      have : ¬ u.toInt = v.toInt := fun q => h2 (i32_ext q)
      omega
theorem lgc_gt (u v : Int32) : 0 < lg_cmp (Int32.toInt64 u) (Int32.toInt64 v) ↔ v < u := by
  show 0 < (if Int32.toInt64 v < Int32.toInt64 u then (1 : Int32) else if Int32.toInt64 u = Int32.toInt64 v then 0 else -1) ↔ _
  by_cases h : v < u
  · rw [if_pos ((i64lt v u).mpr h)]; exact ⟨fun _ => h, fun _ => by decide⟩
  · rw [if_neg (fun q => h ((i64lt v u).mp q))]
    refine ⟨fun q => ?_, fun q => absurd q h⟩
    split at q <;> exact absurd q (by decide)
theorem v_X11_in (F : Nat) (w : Wd) (x a b : Int32) {A B : Int64} (hA : A = Int32.toInt64 a := by rfl) (hB : B = Int32.toInt64 b := by rfl) : P_X11_in F w (Int32.toInt64 x) A B = some (if x < a then 0 else if b < x then 0 else 1, w) := by
  subst hA
  subst hB
  unfold P_X11_in
  by_cases h : x < a
  · rw [if_pos ((lgc_lt x a).mpr h), if_pos h]
  · rw [if_neg (fun q => h ((lgc_lt x a).mp q)), if_neg h, lt_v]
    by_cases h2 : b < x
    · rw [if_pos ((lgc_gt x b).mpr h2), if_pos h2]; rfl
    · rw [if_neg (fun q => h2 ((lgc_gt x b).mp q)), if_neg h2]; rfl
theorem v_X11_has (F : Nat) (w : Wd) (s : Int32) (k : Nat) : P_X11_has F w s (nI k) = some (bt s k, w) := by
  unfold P_X11_has
  show lt (if bt s k = 1 then (1 : Int32) else 0) _ = _
  rcases bt01 s k with h | h
  · rw [h]; rfl
  · rw [h]; rfl
theorem v_X11_flag (F : Nat) (w : Wd) (x : Int32) : P_X11_flag F w x = some (if x = 0 then 0 else 1, w) := rfl
theorem v_X11_isRinger (F : Nat) (w : Wd) (x : Int32) : P_X11_isRinger F w x = some (if x < 0 then 0 else if gI w 88 3 - 1 < x then 0 else 1, w) := by
  unfold P_X11_isRinger
  rw [bnd_r (v_X11_in F w x 0 (gI w 88 3 - 1))]
  exact gd_t (by split; decide; exact isZO_i)
-- sums over those that are in a set
theorem l_X11_sumOf (F : Nat) (w : Wd) (s : Int32) (a r : Nat) (ha : 8 ≤ alen a) (hr : r ≤ 8) (e : gI w 88 3 = nI r) (k : Wd → Int32 → Option (Int32 × Wd)) : ∀ m j, j + m = r → ∀ n, m < n → ∀ x, L_X11_sumOf_5 F s a k n w x (nI j) = k w (x + sumR (fun i => if bt s i = 0 then 0 else gI w a i) j m) := by
  intro m
  induction m with
  | zero =>
    intro j hj n hn x
    obtain ⟨n, rfl⟩ : ∃ q, n = q + 1 := ⟨n - 1, by omega⟩
    rw [L_X11_sumOf_5, e, if_pos (nI_le (by omega) (lt31 (by omega)))]
    show k w x = k w (x + 0)
    rw [add0]
  | succ m ih =>
    intro j hj n hn x
    obtain ⟨n, rfl⟩ : ∃ q, n = q + 1 := ⟨n - 1, by omega⟩
    rw [L_X11_sumOf_5, e, if_neg (nI_ge (by omega) (lt31 (by omega))), bnd_r (v_X11_has F w s j)]
    show _ = k w (x + ((if bt s j = 0 then 0 else gI w a j) + _))
    have go : ∀ y : Int32, K_X11_sumOf_32 F s a k (L_X11_sumOf_5 F s a k n) w (nI j) y x = k w (x + (y + sumR (fun i => if bt s i = 0 then 0 else gI w a i) (j + 1) m)) := by
      intro y
      show L_X11_sumOf_5 F s a k n w (x + y) (nI j + 1) = _
      rw [nI_1, ih (j + 1) (by omega) n (by omega), addA]
    by_cases hb : bt s j = 0
    · rw [if_pos hb, if_pos hb]; exact go 0
    · rw [if_neg hb, if_neg hb, gd_t (inB_n (show j < alen a by omega) (lt31 (by omega))), nI_clamp (lt31 (by omega))]; exact go _
theorem v_X11_sumOf {F : Nat} (hF : 100 ≤ F) {w : Wd} {a r : Nat} (ha : 8 ≤ alen a) (hr : r ≤ 8) (e : gI w 88 3 = nI r) (s : Int32) : P_X11_sumOf F w s a = some (sumR (fun i => if bt s i = 0 then 0 else gI w a i) 0 r, w) := by
  refine (l_X11_sumOf F w s a r ha hr e _ r 0 (by omega) F (by omega) 0).trans ?_
  show some (0 + _, w) = _
  rw [zadd]
theorem sumR_upto {f g : Nat → Int32} {r : Nat} (hr : r ≤ 8) (h1 : ∀ i, i < r → f i = g i) (h2 : ∀ i, r ≤ i → i < 8 → g i = 0) : sumR f 0 r = sumR g 0 8 := by
  rw [show (8 : Nat) = r + (8 - r) from by omega, sumR_split, sumR_congr r 0 (fun i _ h => h1 i (by omega)), sumR_0 (f := g) (8 - r) (0 + r) (fun i ha hb => h2 i (by omega) (by omega)), add0]
theorem orR_upto {f g : Nat → Int32} {r : Nat} (hr : r ≤ 8) (h1 : ∀ i, i < r → f i = g i) (h2 : ∀ i, r ≤ i → i < 8 → g i = 0) : orR f 0 r = orR g 0 8 := by
  rw [show (8 : Nat) = r + (8 - r) from by omega, orR_split, orR_congr r 0 (fun i _ h => h1 i (by omega)), orR_0 (f := g) (8 - r) (0 + r) (fun i ha hb => h2 i (by omega) (by omega)), or0]
theorem bt_mul (s x : Int32) (k : Nat) : (if bt s k = 0 then 0 else x) = bt s k * x := by
  rcases bt01 s k with h | h
  · rw [h, if_pos rfl, Int32.zero_mul]
  · rw [h, if_neg (by decide), Int32.one_mul]
theorem m_str {F : Nat} (hF : 100 ≤ F) {w : Wd} {T : Tw} {r p N : Nat} (ok : okTw T r p N) (h : MT w T r p N) (s : Int32) : P_X11_sumOf F w s 90 = some (sumR (fun i => if bt s i = 0 then 0 else T 0 i) 0 8, w) := by
  rw [v_X11_sumOf hF (by decide) ok.1 h.1, sumR_upto (g := fun i => if bt s i = 0 then 0 else T 0 i) ok.1 (fun i hi => by rw [(h.2.2.2.2.2.1 i hi).1]) (fun i h1 _ => by rw [(ok.2.2.2.2.2.2.1 i h1).1]; split <;> rfl)]
theorem m_fee {F : Nat} (hF : 100 ≤ F) {w : Wd} {T : Tw} {r p N : Nat} (ok : okTw T r p N) (h : MT w T r p N) (s : Int32) : P_X11_sumOf F w s 91 = some (feesT T s, w) := by
  rw [v_X11_sumOf hF (by decide) ok.1 h.1]
  unfold feesT
  rw [sumR_upto (g := fun i => bt s i * T 1 i) ok.1 (fun i hi => by rw [(h.2.2.2.2.2.1 i hi).2, bt_mul]) (fun i h1 _ => by rw [(ok.2.2.2.2.2.2.1 i h1).2, Int32.mul_zero])]
/-- those that are not there are not tired, nor at the rope; the rope has no fewer strands than none -/
def zB (b : Bl) (r : Nat) : Prop := (∀ k, r ≤ k → k < 8 → b k = 0 ∧ bt (b 8) k = 0) ∧ ¬ b 9 < 0
theorem m_tir {F : Nat} (hF : 100 ≤ F) {w : Wd} {T : Tw} {r p N a : Nat} (ok : okTw T r p N) (h : MT w T r p N) (ha : isRw a) (hz : ∀ k, r ≤ k → k < 8 → gI w a k = 0) (s : Int32) : P_X11_sumOf F w s a = some (sumR (fun i => if bt s i = 0 then 0 else rM w a i) 0 8, w) := by
  rw [v_X11_sumOf hF (by rw [rw_len ha]; decide) ok.1 h.1, sumR_upto (g := fun i => if bt s i = 0 then 0 else rM w a i) ok.1 (fun i hi => by rw [rM_k (by have := ok.1; omega)]) (fun i h1 h2 => by rw [rM_k (by omega), hz i h1 h2]; split <;> rfl)]
-- the rule worked out
def atM (v code : Nat → Int32) (j : Nat) (w : Wd) : Prop := (∀ k, k < 7 → gI w 102 k = v k) ∧ ∀ p, p < hgt code j → gI w 101 p = (runv v code j).1 p
theorem v_X11_worked (F : Nat) (w : Wd) {c : Int32} (h : 2000 ≤ c ∧ c ≤ 2006) (x y : Int32) : P_X11_worked F w (c - 2000) x y = some (opv c x y, w) := by
  obtain ⟨j, hj, rfl⟩ := nI_of2 (M := 2006) (n := 2006) (by decide) (x := c) (by
    intro q
    have h1 := h.1
    rw [Int32.le_iff_toInt_le] at h1
    rw [Int32.lt_iff_toInt_lt] at q
    have e1 : (2000 : Int32).toInt = 2000 := by decide
    have e2 : (0 : Int32).toInt = 0 := by decide
    omega) h.2
  have hj2 : 2000 ≤ j := by
    by_cases hx : 2000 ≤ j
    · exact hx
    · exact absurd h.1 (nI_ge (a := j) (b := 2000) (by omega) (by decide))
  rcases (show j = 2000 ∨ j = 2001 ∨ j = 2002 ∨ j = 2003 ∨ j = 2004 ∨ j = 2005 ∨ j = 2006 by omega) with rfl | rfl | rfl | rfl | rfl | rfl | rfl
  · show some (if (if y ≤ x then (0 : Int32) else 1) = 0 then (0 : Int32) else 1, w) = some (if y ≤ x then 0 else 1, w)
    split <;> rfl
  · show some (if (if x ≤ y then (0 : Int32) else 1) = 0 then (0 : Int32) else 1, w) = some (if x ≤ y then 0 else 1, w)
    split <;> rfl
  · show some (if (if x = y then (1 : Int32) else 0) = 0 then (0 : Int32) else 1, w) = some (if x = y then 1 else 0, w)
    split <;> rfl
  · rfl
  · rfl
  · rfl
  · show (if y = 0 then some (0, w) else gd (neZ y) (some (x / y, w))) = some (if y = 0 then 0 else x / y, w)
    by_cases hy : y = 0
    · rw [if_pos hy, if_pos hy]
    · rw [if_neg hy, if_neg hy, gd_t (by unfold neZ; rw [decide_eq_false hy]; rfl)]
theorem l_X11_ruled (F : Nat) (kk : Wd → Option (Int32 × Wd)) (v : Nat → Int32) (N : Nat) (code : Nat → Int32) (hN : okR code N) : ∀ m j, j + m = N → ∀ n, m < n → ∀ w, gI w 88 22 = nI N → (∀ k, k < N → gI w 99 k = code k) → atM v code j w →
    ∃ w2, L_X11_ruled_4 F kk n w (nI (hgt code j)) (nI j) = kk w2 ∧ Fm (fun b _ => b = 101) w w2 ∧ atM v code N w2 := by
  intro m
  obtain ⟨hN0, hN1, hN2, hN3⟩ := hN
  induction m with
  | zero =>
    intro j hj n hn w h1 h2 h3
    obtain ⟨n, rfl⟩ : ∃ q, n = q + 1 := ⟨n - 1, by omega⟩
    obtain rfl : j = N := by omega
    rw [L_X11_ruled_4, h1, if_pos (Int32.le_refl _)]
    exact ⟨w, rfl, Fm.rfl', h3⟩
  | succ m ih =>
    intro j hj n hn w h1 h2 h3
    obtain ⟨n, rfl⟩ : ∃ q, n = q + 1 := ⟨n - 1, by omega⟩
    have hjN : j < N := by omega
    have ht := h2 j hjN
    have hh := hgt_le code j
    have step : ∀ (p : Nat) (x : Int32), hgt code (j + 1) = p + 1 → (∀ q, q < p + 1 → (runv v code (j + 1)).1 q = if q = p then x else (runv v code j).1 q) → p ≤ hgt code j →
        ∃ w2, L_X11_ruled_4 F kk n (sI w 101 p x) (nI (p + 1)) (nI (j + 1)) = kk w2 ∧ Fm (fun b _ => b = 101) w w2 ∧ atM v code N w2 := by
      intro p x hp hr hpj
      have g1 : ∀ b q, ¬ b = 101 → gI (sI w 101 p x) b q = gI w b q := fun b q hb => by rw [gI_sI, if_neg hb]
      obtain ⟨w2, e1, e2, e3⟩ := ih (j + 1) (by omega) n (by omega) (sI w 101 p x) (by rw [g1 _ _ (by omega)]; exact h1) (fun k hk => by rw [g1 _ _ (by omega)]; exact h2 k hk) ⟨fun k hk => by rw [g1 _ _ (by omega)]; exact h3.1 k hk, fun q hq => by
        rw [hp] at hq
        rw [gI_sI, if_pos rfl, hr q hq]
        by_cases hqp : q = p
        · rw [if_pos hqp, if_pos hqp]
        · rw [if_neg hqp, if_neg hqp]
          exact h3.2 q (by omega)⟩
      refine ⟨w2, ?_, (show Fm (fun b _ => b = 101) w _ from Fm.rfl'.sI rfl).tr e2, e3⟩
      rw [hp] at e1
      exact e1
    rw [L_X11_ruled_4, h1, if_neg (nI_ge (by omega) (by omega)), gd_t (inB_n (show j < 80 by omega) (by omega)), nI_clamp (by omega), ht, lt_v]
    have hsz := hN2 j hjN
    have hrun := runv_s v code j
    have hrh := runv_h v code j
    have hw := hN1 j hjN
    rw [hgt_s] at hsz
    by_cases hneg : code j = 3000
    · rw [if_pos hneg] at hsz
      have hp : nI (hgt code j) - 1 = nI (hgt code j - 1) := pk_sub (a := hgt code j) (b := 1) hsz
      rw [if_pos hneg, hp, gd_t (inB_n (show hgt code j - 1 < 80 by omega) (by omega)), gd_t (inB_n (show hgt code j - 1 < 80 by omega) (by omega)), lt_v, nI_clamp (by omega)]
      show ∃ w2, L_X11_ruled_4 F kk n (sI w 101 (hgt code j - 1) _) (nI (hgt code j)) (nI j + 1) = kk w2 ∧ _
      rw [nI_1, show hgt code j = hgt code j - 1 + 1 from by omega, show hgt code j - 1 + 1 - 1 = hgt code j - 1 from by omega]
      refine step (hgt code j - 1) _ ?_ ?_ (by omega)
      · rw [hgt_s, if_pos hneg]; omega
      · intro q hq2
        rw [hrun]
        unfold stpv
        rw [if_pos hneg]
        show upd _ _ _ q = _
        unfold upd
        rw [hrh]
        by_cases hqp : q = hgt code j - 1
        · rw [if_pos hqp, if_pos hqp, h3.2 _ (by omega)]
        · rw [if_neg hqp, if_neg hqp]
    · rw [if_neg hneg]
      by_cases hlt : code j < 2000
      · have hnum : 0 ≤ code j ∧ code j ≤ 1006 := by
          rcases hw with h | h | h
          · exact h
          · exact absurd hlt (Int32.not_lt.mpr h.1)
          · exact absurd h hneg
        have hn2 := num_not hnum
        rw [if_pos hlt]
        obtain ⟨i, hi, ei⟩ := nI_of2 (M := 1006) (n := 1006) (by decide) (x := code j) (by rw [Int32.not_lt]; exact hnum.1) hnum.2
        have fin : ∀ x : Int32, x = (if 1000 ≤ code j then v (code j - 1000).toNatClampNeg else code j) → ∃ w2, K_X11_ruled_115 F kk (L_X11_ruled_4 F kk n) w (nI (hgt code j)) (nI j) x (nI (hgt code j)) = kk w2 ∧ Fm (fun b _ => b = 101) w w2 ∧ atM v code N w2 := by
          intro x hx
          unfold K_X11_ruled_115
          rw [gd_t (inB_n (show hgt code j < 80 by omega) (by omega)), lt_v, lt_v, nI_clamp (by omega), nI_1]
          show ∃ w2, L_X11_ruled_4 F kk n _ _ (nI j + 1) = kk w2 ∧ _
          rw [nI_1]
          refine step (hgt code j) x ?_ ?_ (Nat.le_refl _)
          · rw [hgt_s, if_neg hn2.1, if_neg hn2.2]
          · intro q hq2
            rw [hrun]
            unfold stpv
            rw [if_neg hn2.1, if_neg hn2.2]
            show upd _ _ _ q = _
            unfold upd
            rw [hrh]
            by_cases hqp : q = hgt code j
            · rw [if_pos hqp, if_pos hqp, hx]
            · rw [if_neg hqp, if_neg hqp]
        by_cases hl : code j < 1000
        · rw [if_pos hl]
          exact fin _ (by rw [if_neg (Int32.not_le.mpr hl)])
        · have hl2 : (1000 : Int32) ≤ code j := Int32.not_lt.mp hl
          have hi2 : 1000 ≤ i := by
            by_cases hx : 1000 ≤ i
            · exact hx
            · rw [ei] at hl2; exact absurd hl2 (nI_ge (a := i) (b := 1000) (by omega) (by decide))
          have hc : code j - 1000 = nI (i - 1000) := by rw [ei]; exact pk_sub (a := i) (b := 1000) hi2
          rw [if_neg hl, hc, gd_t (inB_n (show i - 1000 < 7 by omega) (by omega)), nI_clamp (by omega)]
          refine fin _ ?_
          rw [if_pos hl2, hc, nI_clamp (by omega), h3.1 (i - 1000) (by omega)]
      · have hge : (2000 : Int32) ≤ code j := Int32.not_lt.mp hlt
        have hop : 2000 ≤ code j ∧ code j ≤ 2006 := by
          rcases hw with h | h | h
          · exact absurd hge (num_not h).2
          · exact h
          · exact absurd h hneg
        have h2h := hN3 j hjN hge hneg
        rw [if_neg hlt, show nI (hgt code j) + (-1) = nI (hgt code j - 1) from by rw [show hgt code j = hgt code j - 1 + 1 from by omega]; exact pk_m1 _, lt_v]
        have hp : nI (hgt code j - 1) - 1 = nI (hgt code j - 2) := by rw [show nI (hgt code j - 1) - 1 = nI (hgt code j - 1 - 1) from pk_sub (a := hgt code j - 1) (b := 1) (by omega)]; rfl
        rw [hp, gd_t (inB_n (show hgt code j - 2 < 80 by omega) (by omega)), gd_t (inB_n (show hgt code j - 1 < 80 by omega) (by omega)), bnd_r (v_X11_worked F w hop _ _), gd_t (inB_n (show hgt code j - 2 < 80 by omega) (by omega)), lt_v, nI_clamp (by omega), nI_clamp (by omega)]
        show ∃ w2, L_X11_ruled_4 F kk n (sI w 101 (hgt code j - 2) _) (nI (hgt code j - 1)) (nI j + 1) = kk w2 ∧ _
        rw [nI_1, show hgt code j - 1 = hgt code j - 2 + 1 from by omega]
        refine step (hgt code j - 2) _ ?_ ?_ (by omega)
        · rw [hgt_s, if_neg hneg, if_pos hge]; omega
        · intro q hq2
          rw [hrun]
          unfold stpv
          rw [if_neg hneg, if_pos hge]
          show upd _ _ _ q = _
          unfold upd
          rw [hrh]
          by_cases hqp : q = hgt code j - 2
          · rw [if_pos hqp, if_pos hqp, h3.2 _ (by omega), h3.2 _ (by omega), show hgt code j - 2 + 1 = hgt code j - 1 from by omega]
          · rw [if_neg hqp, if_neg hqp]
theorem v_X11_ruled {F : Nat} (hF : 100 ≤ F) {w : Wd} {T : Tw} {r p N : Nat} (ok : okTw T r p N) (h : MT w T r p N) (s t n x f st m : Int32) (hv : ∀ k, k < 7 → gI w 102 k = vals s t n x f st m k) : ∃ w2, P_X11_ruled F w = some (valT T s t n x f st m, w2) ∧ Fm (fun b _ => b = 101) w w2 := by
  obtain ⟨o1, o2, o3, o4, o5, o6, -⟩ := ok
  obtain ⟨-, -, -, -, -, -, -, h8, h9⟩ := h
  have hN40 : N ≤ 40 := o6.1
  unfold P_X11_ruled
  obtain ⟨w2, e1, e2, e3⟩ := l_X11_ruled F (fun w  => (if (gI w 88 22) = 0 then gd (inB 0 7) (gd (inB 1 7) (gd (inB 3 7) (gd (inB 4 7) (some ((((10 * (gI w 102 0)) - (gI w 102 1)) - (3 * (gI w 102 3))) - (gI w 102 4), w))))) else gd (inB 0 80) (some (gI w 101 0, w)))) (vals s t n x f st m) N (T 5) o6 N 0 (by omega) F (by omega) w h8 h9 ⟨hv, fun p hp => absurd hp (Nat.not_lt_zero _)⟩
  refine ⟨w2, (show L_X11_ruled_4 F _ F w 0 0 = _ from e1).trans ?_, e2⟩
  have g22 : gI w2 88 22 = nI N := by rw [(e2 88 22 (by omega)).1]; exact h8
  have gv : ∀ k, k < 7 → gI w2 102 k = vals s t n x f st m k := fun k hk => by rw [(e2 102 k (by omega)).1]; exact hv k hk
  simp only [gd1, GL, g22]
  unfold valT
  rw [o5]
  by_cases h0 : nI N = 0
  · rw [if_pos h0, if_pos h0, gv 0 (by omega), gv 1 (by omega), gv 3 (by omega), gv 4 (by omega)]
    show some (10 * s - t - 3 * x - f, w2) = some (s * 10 - t - x * 3 - f, w2)
    rw [Int32.mul_comm 10 s, Int32.mul_comm 3 x]
  · have hNp : 0 < N := by
      rcases Nat.eq_zero_or_pos N with rfl | h
      · exact absurd rfl h0
      · exact h
    have h1 : 1 ≤ hgt (T 5) N := by
      have := o6.2.2.1 (N - 1) (by omega)
      rwa [show N - 1 + 1 = N from by omega] at this
    rw [if_neg h0, if_neg h0, nI_clamp (by omega), e3.2 0 (by omega)]
