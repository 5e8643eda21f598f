-- ===== the night: what was noted, what fits =====
abbrev Nf : Type := Nat → Nat → Int32
def NtC (w : Wd) (c : Nat) (f : Nf) : Prop := gI w 76 3 = nI c ∧ c ≤ 12 ∧ ∀ i, i < c → gI w 77 i = f 0 i ∧ gI w 78 i = f 1 i ∧ gI w 79 i = f 2 i
def NtM (w : Wd) (c : Nat) (f : Nf) : Prop := gI w 88 37 = nI c ∧ c ≤ 12 ∧ ∀ i, i < c → gI w 111 i = f 0 i ∧ gI w 112 i = f 1 i ∧ gI w 113 i = f 2 i
def okNf (c : Nat) (f : Nf) : Prop := ∀ i, i < c → f 2 i = 0 ∨ f 2 i = 1
def fitX (f : Nf) (k : Nat) (x : Int32) (i : Nat) (_ : Unit) : Sum Unit Unit := if f 0 i = nI k then (if (if x < f 1 i then (0 : Int32) else 1) = (if f 2 i = 1 then 1 else 0) then .inr () else .inl ()) else .inr ()
def isR {α β : Type} (x : Sum α β) : Bool := match x with
  | .inl _ => false
  | .inr _ => true
def fitB (c : Nat) (f : Nf) (k : Nat) (x : Int32) : Bool := isR (foldX (fitX f k x) c 0 ())
def bI (x : Bool) : Int32 := if x then 1 else 0
theorem bI_N (x : Bool) : bI x = nI (b01 x) := by cases x <;> rfl
theorem v_X3_fits {F : Nat} (hF : 100 ≤ F) {w : Wd} {c : Nat} {f : Nf} (h : NtC w c f) (k : Nat) (x : Int32) : P_X3_fits F w (nI k) x = some (bI (fitB c f k x), w) := by
  obtain ⟨h1, h2, h3⟩ := h
  unfold P_X3_fits fitB
  rcases lpX (fun m w (_ : Unit) i => L_X3_fits_2 F (nI k) x (fun w  => some (1, w)) m w i) (fun w _ => some (1, w)) (fun u _ => some (0, u)) (fitX f k x) (fun u _ _ => u = w) (fun u _ => u = w) c
    (fun m u s hI => by
      subst hI
      show L_X3_fits_2 F (nI k) x _ (m + 1) u _ = _
      rw [L_X3_fits_2, h1, if_pos (Int32.le_refl _)])
    (fun m u s i hi hI => by
      subst hI
      obtain ⟨a1, a2, a3⟩ := h3 i hi
      show (∃ w2 t, _ ∧ L_X3_fits_2 F (nI k) x _ (m + 1) u _ = L_X3_fits_2 F (nI k) x _ m w2 _ ∧ _) ∨ (∃ w2 o, _ ∧ L_X3_fits_2 F (nI k) x _ (m + 1) u _ = _ ∧ _)
      rw [L_X3_fits_2, h1, if_neg (nI_ge hi (by omega)), if_neg (show ¬ (12 : Int32) ≤ nI i from nI_ge (a := i) (b := 12) (by omega) (by decide)), gd_t (inB_n (show i < 12 by omega) (by omega)), lt_v, gd_t (inB_n (show i < 12 by omega) (by omega)), nI_clamp (by omega), a1, a2, gd_t (inB_n (show i < 12 by omega) (by omega)), a3, lt_v]
      unfold fitX K_X3_fits_65
      rw [lt_v, nI_1]
      by_cases c1 : f 0 i = nI k
      · rw [if_pos c1, if_pos c1]
        by_cases c2 : (if x < f 1 i then (0 : Int32) else 1) = (if f 2 i = 1 then 1 else 0)
        · rw [if_pos c2, if_pos c2]
          exact .inl ⟨u, (), rfl, rfl, rfl⟩
        · rw [if_neg c2, if_neg c2]
          exact .inr ⟨u, (), rfl, rfl, rfl⟩
      · rw [if_neg c1, if_neg c1]
        exact .inl ⟨u, (), rfl, rfl, rfl⟩)
    c 0 (by omega) F (by omega) w () rfl with ⟨w2, t, e1, e2, e3⟩ | ⟨w2, o, e1, e2, e3⟩
  · rw [e1, show L_X3_fits_2 F (nI k) x _ F w 0 = _ from e2, e3]; rfl
  · rw [e1, show L_X3_fits_2 F (nI k) x _ F w 0 = _ from e2, e3]; rfl
-- numbers of ways
def sumN (g : Nat → Nat) : Nat → Nat → Nat
  | _, 0 => 0
  | j, m + 1 => g j + sumN g (j + 1) m
theorem sumN_le {g : Nat → Nat} {B : Nat} : ∀ m j, (∀ i, j ≤ i → i < j + m → g i ≤ B) → sumN g j m ≤ B * m := by
  intro m
  induction m with
  | zero => intro j _; exact Nat.le_refl _
  | succ m ih =>
    intro j h
    have h1 := h j (Nat.le_refl _) (by omega)
    have h2 := ih (j + 1) (fun i a b => h i (by omega) (by omega))
    show g j + _ ≤ _
    rw [Nat.mul_add, Nat.mul_one]
    omega
theorem sumN_ge {g : Nat → Nat} : ∀ m j i, j ≤ i → i < j + m → g i ≤ sumN g j m := by
  intro m
  induction m with
  | zero => intro j i h1 h2; omega
  | succ m ih =>
    intro j i h1 h2
    show g i ≤ g j + sumN g (j + 1) m
    by_cases h : i = j
    · subst h; exact Nat.le_add_right _ _
    · exact Nat.le_trans (ih (j + 1) i (by omega) (by omega)) (Nat.le_add_left _ _)
theorem sumN_split (g : Nat → Nat) : ∀ m j k, sumN g j (m + k) = sumN g j m + sumN g (j + m) k := by
  intro m
  induction m with
  | zero => intro j k; rw [Nat.zero_add]; exact (Nat.zero_add _).symm
  | succ m ih =>
    intro j k
    rw [show m + 1 + k = (m + k) + 1 by omega]
    show g j + sumN g (j + 1) (m + k) = g j + sumN g (j + 1) m + sumN g (j + (m + 1)) k
    rw [ih, ← Nat.add_assoc, show j + 1 + m = j + (m + 1) by omega]
theorem sumN_0 {g : Nat → Nat} : ∀ m j, (∀ i, j ≤ i → i < j + m → g i = 0) → sumN g j m = 0 := by
  intro m
  induction m with
  | zero => intro j _; rfl
  | succ m ih => intro j h; show g j + _ = 0; rw [h j (Nat.le_refl _) (by omega), ih (j + 1) (fun i a b => h i (by omega) (by omega))]
theorem sumN_congr {g h : Nat → Nat} : ∀ m j, (∀ i, j ≤ i → i < j + m → g i = h i) → sumN g j m = sumN h j m := by
  intro m
  induction m with
  | zero => intro j _; rfl
  | succ m ih => intro j hh; show g j + _ = h j + _; rw [hh j (Nat.le_refl _) (by omega), ih (j + 1) (fun i a b => hh i (by omega) (by omega))]
/-- all others' -/
def oth (g : Nat → Nat) (r : Nat) : Nat := sumN g 0 8 - g r
theorem oth_pos {g : Nat → Nat} {r : Nat} (hr : r < 8) : 0 < oth g r ↔ ∃ o, o < 8 ∧ o ≠ r ∧ 0 < g o := by
  have e : ∀ g : Nat → Nat, sumN g 0 8 = g 0 + (g 1 + (g 2 + (g 3 + (g 4 + (g 5 + (g 6 + (g 7 + 0))))))) := fun _ => rfl
  unfold oth
  rw [e]
  refine ⟨fun h => ?_, fun ⟨o, h1, h2, h3⟩ => ?_⟩
  · apply Classical.byContradiction
    intro hn
    have z : ∀ o, o < 8 → o ≠ r → g o = 0 := fun o h1 h2 => by
      rcases Nat.eq_zero_or_pos (g o) with q | q
      · exact q
      · exact absurd ⟨o, h1, h2, q⟩ hn
    rcases (show r = 0 ∨ r = 1 ∨ r = 2 ∨ r = 3 ∨ r = 4 ∨ r = 5 ∨ r = 6 ∨ r = 7 by omega) with rfl | rfl | rfl | rfl | rfl | rfl | rfl | rfl
    all_goals
      first
      | (have z0 := z 0; have z1 := z 1; have z2 := z 2; have z3 := z 3; have z4 := z 4; have z5 := z 5; have z6 := z 6; have z7 := z 7
         omega)
  · rcases (show r = 0 ∨ r = 1 ∨ r = 2 ∨ r = 3 ∨ r = 4 ∨ r = 5 ∨ r = 6 ∨ r = 7 by omega) with rfl | rfl | rfl | rfl | rfl | rfl | rfl | rfl
    all_goals
      rcases (show o = 0 ∨ o = 1 ∨ o = 2 ∨ o = 3 ∨ o = 4 ∨ o = 5 ∨ o = 6 ∨ o = 7 by omega) with rfl | rfl | rfl | rfl | rfl | rfl | rfl | rfl
      all_goals omega
/-- ways till a shift, and from one on; 'ft k r': r fits shift k -/
def Vw (ft : Nat → Nat → Bool) : Nat → Nat → Nat
  | 0, r => b01 (ft 0 r)
  | k + 1, r => b01 (ft (k + 1) r) * oth (Vw ft k) r
def Ww (ft : Nat → Nat → Bool) : Nat → Nat → Nat
  | 0, r => b01 (ft 5 r)
  | d + 1, r => b01 (ft (4 - d) r) * oth (Ww ft d) r
theorem b01_1 (x : Bool) : b01 x ≤ 1 := by cases x <;> decide
theorem oth_le (g : Nat → Nat) (r : Nat) : oth g r ≤ sumN g 0 8 := Nat.sub_le _ _
theorem Vw_le (ft : Nat → Nat → Bool) : ∀ k r, Vw ft k r ≤ 8 ^ k := by
  intro k
  induction k with
  | zero => intro r; exact b01_1 _
  | succ k ih =>
    intro r
    have h1 := sumN_le (g := Vw ft k) (B := 8 ^ k) 8 0 (fun i _ _ => ih i)
    have h2 := Nat.mul_le_mul (b01_1 (ft (k + 1) r)) (oth_le (Vw ft k) r)
    show b01 (ft (k + 1) r) * oth (Vw ft k) r ≤ _
    rw [Nat.pow_succ]
    omega
theorem Ww_le (ft : Nat → Nat → Bool) : ∀ k r, Ww ft k r ≤ 8 ^ k := by
  intro k
  induction k with
  | zero => intro r; exact b01_1 _
  | succ k ih =>
    intro r
    have h1 := sumN_le (g := Ww ft k) (B := 8 ^ k) 8 0 (fun i _ _ => ih i)
    have h2 := Nat.mul_le_mul (b01_1 (ft (4 - k) r)) (oth_le (Ww ft k) r)
    show b01 (ft (4 - k) r) * oth (Ww ft k) r ≤ _
    rw [Nat.pow_succ]
    omega
theorem p8 {k : Nat} (h : k ≤ 6) : 8 ^ k ≤ 262144 := Nat.le_trans (Nat.pow_le_pow_right (by decide) h) (by decide)
-- ===== the class's rows of ways =====
def isW (a : Nat) : Prop := a = 80 ∨ a = 81
theorem isW_len {a : Nat} (h : isW a) : alen a = 48 := by rcases h with rfl | rfl <;> rfl
theorem v_X3_waysOf (F : Nat) (w : Wd) {a : Nat} (ha : isW a) (k r : Nat) (hk : k < 6) (hr : r < 8) : P_X3_waysOf F w a (nI k) (nI r) = some (gI w a (k * 8 + r), w) := by
  unfold P_X3_waysOf
  rw [isW_len ha, show nI k * 8 + nI r = nI (k * 8 + r) from by rw [show (8 : Int32) = nI 8 from rfl, pk_mul, nI_add], lt_v, if_neg (nI_pos (by omega)), if_neg (show ¬ Int32.ofNat 48 ≤ nI (k * 8 + r) from nI_ge (a := k * 8 + r) (b := 48) (by omega) (by decide)), gd_t (inB_n (show k * 8 + r < 48 by omega) (by omega)), nI_clamp (by omega)]
theorem v_X3_sum {F : Nat} (hF : 100 ≤ F) (w : Wd) {a : Nat} (ha : isW a) (k : Nat) (hk : k < 6) (g : Nat → Nat) (hg : ∀ r, r < 8 → gI w a (k * 8 + r) = nI (g r)) : P_X3_sum F w a (nI k) = some (nI (sumN g 0 8), w) := by
  unfold P_X3_sum
  have key : ∀ m j, j + m = 8 → ∀ n, m < n → ∀ x : Nat, L_X3_sum_4 F a (nI k) (fun w x5 => some (x5, w)) n w (nI x) (nI j) = some (nI (x + sumN g j m), w) := by
    intro m
    induction m with
    | zero =>
      intro j hj n hn x
      obtain ⟨n, rfl⟩ : ∃ q, n = q + 1 := ⟨n - 1, by omega⟩
      rw [L_X3_sum_4, if_pos (n8le (by omega) (lt31 (by omega)))]
      rfl
    | succ m ih =>
      intro j hj n hn x
      obtain ⟨n, rfl⟩ : ∃ q, n = q + 1 := ⟨n - 1, by omega⟩
      rw [L_X3_sum_4, if_neg (n8gt (by omega)), bnd_r (v_X3_waysOf F w ha k j hk (by omega)), lt_v, lt_v, hg j (by omega), nI_add, nI_1, ih (j + 1) (by omega) n (by omega), Nat.add_assoc]
      rfl
  refine (key 8 0 rfl F (by omega) 0).trans ?_
  rw [Nat.zero_add]
theorem v_X3_goOn {F : Nat} (hF : 100 ≤ F) (w : Wd) {a : Nat} (ha : isW a) (k l : Nat) (hk : k < 6) (hl : l < 6) (hkl : k ≠ l) (g c : Nat → Nat) (hg : ∀ r, r < 8 → gI w a (k * 8 + r) = nI (g r)) (hc : ∀ r, r < 8 → gI w a (l * 8 + r) = nI (c r)) (hgb : ∀ r, r < 8 → g r ≤ 262144) : ∃ w2, P_X3_goOn F w a (nI k) (nI l) = some w2 ∧ Fr (fun b => b = a) w w2 ∧ (∀ r, r < 8 → gI w2 a (l * 8 + r) = nI (c r * oth g r)) ∧ (∀ j, (j < l * 8 ∨ l * 8 + 8 ≤ j) → gI w2 a j = gI w a j) := by
  have hlen := isW_len ha
  unfold P_X3_goOn
  rw [bnd_r (v_X3_sum hF w ha k hk g hg)]
  have key : ∀ m j, j + m = 8 → ∀ n, m < n → ∀ v, Fr (fun b => b = a) w v → (∀ r, r < 8 → gI v a (l * 8 + r) = nI (if r < j then c r * oth g r else c r)) → (∀ q, (q < l * 8 ∨ l * 8 + 8 ≤ q) → gI v a q = gI w a q) → ∃ w2, L_X3_goOn_9 F a (nI k) (nI l) (nI (sumN g 0 8)) (fun w => some w) n v (nI j) = some w2 ∧ Fr (fun b => b = a) w w2 ∧ (∀ r, r < 8 → gI w2 a (l * 8 + r) = nI (c r * oth g r)) ∧ (∀ q, (q < l * 8 ∨ l * 8 + 8 ≤ q) → gI w2 a q = gI w a q) := by
    intro m
    induction m with
    | zero =>
      intro j hj n hn v h1 h2 h3
      obtain ⟨n, rfl⟩ : ∃ q, n = q + 1 := ⟨n - 1, by omega⟩
      rw [L_X3_goOn_9, if_pos (n8le (by omega) (lt31 (by omega)))]
      exact ⟨v, rfl, h1, fun r hr => by rw [h2 r hr, if_pos (by omega)], h3⟩
    | succ m ih =>
      intro j hj n hn v h1 h2 h3
      obtain ⟨n, rfl⟩ : ∃ q, n = q + 1 := ⟨n - 1, by omega⟩
      have e1 : gI v a (k * 8 + j) = nI (g j) := by rw [h3 (k * 8 + j) (by omega)]; exact hg j (by omega)
      have e2 : gI v a (l * 8 + j) = nI (c j) := by rw [h2 j (by omega), if_neg (Nat.lt_irrefl _)]
      have e3 : nI (sumN g 0 8) - nI (g j) = nI (oth g j) := pk_sub (sumN_ge 8 0 j (by omega) (by omega))
      rw [L_X3_goOn_9, if_neg (n8gt (by omega)), show nI l * 8 + nI j = nI (l * 8 + j) from by rw [show (8 : Int32) = nI 8 from rfl, pk_mul, nI_add], lt_v, if_neg (nI_pos (by omega)), hlen, if_neg (show ¬ Int32.ofNat 48 ≤ nI (l * 8 + j) from nI_ge (a := l * 8 + j) (b := 48) (by omega) (by decide)), gd_t (inB_n (show l * 8 + j < 48 by omega) (by omega)), bnd_r (v_X3_waysOf F v ha k j hk (by omega)), gd_t (inB_n (show l * 8 + j < 48 by omega) (by omega)), lt_v, nI_clamp (by omega), e1, e2, e3, pk_mul]
      unfold K_X3_goOn_53
      rw [lt_v, nI_1]
      refine ih (j + 1) (by omega) n (by omega) _ (h1.tr Fr.ofI (fun _ h => h) (fun _ h => h)) (fun r hr => ?_) (fun q hq => by rw [gIk (by omega)]; exact h3 q hq)
      by_cases hrj : r = j
      · subst hrj; rw [gIs, if_pos (by omega)]
      · rw [gIk (by omega), h2 r hr]
        by_cases hq : r < j
        · rw [if_pos hq, if_pos (by omega)]
        · rw [if_neg hq, if_neg (by omega)]
  exact key 8 0 rfl F (by omega) w Fr.rfl' (fun r hr => by rw [if_neg (Nat.not_lt_zero _)]; exact hc r hr) (fun _ _ => rfl)
/-- who fits a shift -/
def ftT (T : Tw) (b : Bl) (R c : Nat) (f : Nf) (k r : Nat) : Bool := decide (r < R) && fitB c f k (loudV T b (bit1 r) 0)
def restB (b : Bl) : Bl := fun k => if k < 8 then 0 else b k
theorem loud_rest (T : Tw) (b : Bl) (s : Int32) : loudT T (restB b) s = loudV T b s 0 := by
  unfold loudT loudV
  have e : sumR (fun i => if bt s i = 0 then 0 else restB b i) 0 8 = 0 := sumR_0 8 0 (fun i _ h2 => by
    split
    · rfl
    · exact if_pos (by omega))
  rw [e]
  rfl
def NP (b : Nat) : Prop := Scr b ∨ b = 80 ∨ b = 81
theorem Kp_NP : Kp NP := fun b hb => by
  rcases hb with h | h
  · exact .inr (.inl h)
  · omega
theorem NtC_fr {q : Nat → Prop} {w w2 : Wd} {c : Nat} {f : Nf} (h : NtC w c f) (fr : Fr q w w2) (hq : ∀ b, q b → ¬ (76 ≤ b ∧ b ≤ 79)) : NtC w2 c f := by
  obtain ⟨h1, h2, h3⟩ := h
  have g : ∀ a k, 76 ≤ a → a ≤ 79 → gI w2 a k = gI w a k := fun a k x y => (fr a (fun h => hq a h ⟨x, y⟩)).1 k
  exact ⟨by rw [g 76 3 (by decide) (by decide)]; exact h1, h2, fun i hi => by rw [g 77 i (by decide) (by decide), g 78 i (by decide) (by decide), g 79 i (by decide) (by decide)]; exact h3 i hi⟩
def B81 (b : Nat) : Prop := b = 80 ∨ b = 81
theorem b81_NP {b : Nat} (h : B81 b) : NP b := .inr h
theorem l_X3_work21 {F : Nat} (hF : 2000 ≤ F) {u : Wd} {R : Nat} (hR : R ≤ 8) (eR : gI u 6 2 = nI R) {c : Nat} {f : Nf} (hn : NtC u c f) (r : Nat) (hr : r < 8) (x : Int32) (kk : Wd → Option Wd) : ∀ m j, j + m = 6 → ∀ n, m < n → ∀ v, Fr B81 u v → (∀ k, k < j → gI v 80 (k * 8 + r) = nI (b01 (decide (r < R) && fitB c f k x)) ∧ gI v 81 (k * 8 + r) = nI (b01 (decide (r < R) && fitB c f k x))) → (∀ k q, k < 6 → q < 8 → q ≠ r → gI v 80 (k * 8 + q) = gI u 80 (k * 8 + q) ∧ gI v 81 (k * 8 + q) = gI u 81 (k * 8 + q)) →
    ∃ v2, L_X3_work_21 F 5 25 (nI r) x kk n v (nI j) = kk v2 ∧ Fr B81 u v2 ∧ (∀ k, k < 6 → gI v2 80 (k * 8 + r) = nI (b01 (decide (r < R) && fitB c f k x)) ∧ gI v2 81 (k * 8 + r) = nI (b01 (decide (r < R) && fitB c f k x))) ∧ (∀ k q, k < 6 → q < 8 → q ≠ r → gI v2 80 (k * 8 + q) = gI u 80 (k * 8 + q) ∧ gI v2 81 (k * 8 + q) = gI u 81 (k * 8 + q)) := by
  intro m
  induction m with
  | zero =>
    intro j hj n hn2 v h1 h2 h3
    obtain ⟨n, rfl⟩ : ∃ q, n = q + 1 := ⟨n - 1, by omega⟩
    obtain rfl : j = 6 := by omega
    rw [L_X3_work_21, if_pos (show (6 : Int32) ≤ nI 6 from Int32.le_refl _)]
    exact ⟨v, rfl, h1, h2, h3⟩
  | succ m ih =>
    intro j hj n hn2 v h1 h2 h3
    obtain ⟨n, rfl⟩ : ∃ q, n = q + 1 := ⟨n - 1, by omega⟩
    have e6 : gI v 6 2 = nI R := by rw [(h1 6 (by unfold B81; omega)).1]; exact eR
    have hx : nI j * 8 + nI r = nI (j * 8 + r) := by rw [show (8 : Int32) = nI 8 from rfl, pk_mul, nI_add]
    have hnv := NtC_fr hn h1 (fun b h => by unfold B81 at h; omega)
    have go : ∀ y : Int32, y = nI (b01 (decide (r < R) && fitB c f j x)) → ∃ v2, L_X3_work_21 F 5 25 (nI r) x kk n (sI (sI v 80 (j * 8 + r) y) 81 (j * 8 + r) y) (nI (j + 1)) = kk v2 ∧ Fr B81 u v2 ∧ (∀ k, k < 6 → gI v2 80 (k * 8 + r) = nI (b01 (decide (r < R) && fitB c f k x)) ∧ gI v2 81 (k * 8 + r) = nI (b01 (decide (r < R) && fitB c f k x))) ∧ (∀ k q, k < 6 → q < 8 → q ≠ r → gI v2 80 (k * 8 + q) = gI u 80 (k * 8 + q) ∧ gI v2 81 (k * 8 + q) = gI u 81 (k * 8 + q)) := by
      intro y hy
      refine ih (j + 1) (by omega) n (by omega) _ ((h1.tr (Fr.ofI.imp (fun _ h => Or.inl h)) (fun _ h => h) (fun _ h => h)).tr (Fr.ofI.imp (fun _ h => Or.inr h)) (fun _ h => h) (fun _ h => h)) (fun k hk => ?_) (fun k q hk hq hqr => ?_)
      · by_cases hkk : k = j
        · subst hkk; rw [gIa (by decide), gIs, gIs]; exact ⟨hy, hy⟩
        · rw [gIa (by decide), gIk (by omega), gIk (by omega), gIa (by decide)]; exact h2 k (by omega)
      · rw [gIa (by decide), gIk (by omega), gIk (by omega), gIa (by decide)]; exact h3 k q hk hq hqr
    rw [L_X3_work_21, if_neg (show ¬ (6 : Int32) ≤ nI j from nI_ge (a := j) (b := 6) (by omega) (by decide)), bnd_r (v_X5_has F v 6 r hr), e6]
    by_cases c1 : r < R
    · rw [if_neg (nI_ge c1 (by omega)), if_neg (show ¬ (1 : Int32) = 0 by decide), bnd_r (v_X3_fits (by omega) hnv j _), lt_v, hx, gd_t (inB_n (show j * 8 + r < 48 by omega) (by omega)), lt_v, gd_t (inB_n (show j * 8 + r < 48 by omega) (by omega)), lt_v, lt_v, nI_1, nI_clamp (by omega)]
      refine go _ ?_
      rw [decide_eq_true c1, Bool.true_and, ← bI_N]
      cases fitB c f j x <;> rfl
    · unfold K_X3_work_54 K_X3_work_55
      rw [if_pos (nI_le (by omega) (by omega)), if_pos rfl, hx, gd_t (inB_n (show j * 8 + r < 48 by omega) (by omega)), lt_v, gd_t (inB_n (show j * 8 + r < 48 by omega) (by omega)), lt_v, lt_v, nI_1, nI_clamp (by omega)]
      refine go _ ?_
      rw [decide_eq_false c1, Bool.false_and]
      rfl
/-- the first part of the class's work: who fits stands in both rows -/
theorem l_X3_work {F : Nat} (hF : 2000 ≤ F) {w : Wd} (okt : okT w 5) {R : Nat} (hR : R ≤ 8) (eR : gI w 6 2 = nI R) {c : Nat} {f : Nf} (hn : NtC w c f) (b : Bl) (hb : bC w 25 = restB b) (kk : Wd → Option Wd) : ∀ m j, j + m = 8 → ∀ n, m < n → ∀ u, Fr NP w u → (∀ k r, k < 6 → r < j → gI u 80 (k * 8 + r) = nI (b01 (ftT (tC w 5) b R c f k r)) ∧ gI u 81 (k * 8 + r) = nI (b01 (ftT (tC w 5) b R c f k r))) → ∃ w2, L_X3_work_2 F 5 25 kk n u (nI j) = kk w2 ∧ Fr NP w w2 ∧ ∀ k r, k < 6 → r < 8 → gI w2 80 (k * 8 + r) = nI (b01 (ftT (tC w 5) b R c f k r)) ∧ gI w2 81 (k * 8 + r) = nI (b01 (ftT (tC w 5) b R c f k r)) := by
  intro m
  induction m with
  | zero =>
    intro j hj n hn2 u h1 h2
    obtain ⟨n, rfl⟩ : ∃ q, n = q + 1 := ⟨n - 1, by omega⟩
    obtain rfl : j = 8 := by omega
    rw [L_X3_work_2, if_pos (show (8 : Int32) ≤ nI 8 from Int32.le_refl _)]
    exact ⟨u, rfl, h1, h2⟩
  | succ m ih =>
    intro j hj n hn2 u h1 h2
    obtain ⟨n, rfl⟩ : ∃ q, n = q + 1 := ⟨n - 1, by omega⟩
    obtain ⟨u1, d1, d2⟩ := v_X9_volume (F := F) (by omega) u 5 25 (okT_fr Kp_NP h1 okt) (bit1 j)
    rw [tC_fr Kp_NP h1 okt, bC_fr h1 (by unfold NP Scr; omega) (by unfold NP Scr; omega), hb, loud_rest] at d1
    have f1 : Fr NP w u1 := h1.tr (d2.imp (fun _ h => Or.inl h)) (fun _ h => h) (fun _ h => h)
    rw [L_X3_work_2, if_neg (n8gt (by omega)), bnd_r (show P_X9_volume F u 5 25 (ishlI 1 (nI j)) = _ from d1)]
    obtain ⟨u2, g1, g2, g3, g4⟩ := l_X3_work21 hF hR (u := u1) (by rw [(f1 6 (by unfold NP Scr; omega)).1]; exact eR) (NtC_fr hn f1 (fun b h => by unfold NP Scr at h; omega)) j (by omega) (loudV (tC w 5) b (bit1 j) 0) (fun w  => lt (nI j + 1 : Int32) (fun x32 => L_X3_work_2 F 5 25 kk n w x32)) 6 0 rfl F (by omega) u1 Fr.rfl' (fun k hk => absurd hk (Nat.not_lt_zero _)) (fun _ _ _ _ _ => ⟨rfl, rfl⟩)
    rw [show L_X3_work_21 F 5 25 (nI j) _ _ F u1 0 = _ from g1, lt_v, nI_1]
    refine ih (j + 1) (by omega) n (by omega) u2 (f1.tr (g2.imp (fun _ h => b81_NP h)) (fun _ h => h) (fun _ h => h)) (fun k r hk hr => ?_)
    by_cases hrj : r = j
    · subst hrj; exact g3 k hk
    · obtain ⟨q1, q2⟩ := g4 k r hk (by omega) hrj
      rw [q1, q2, (d2 80 (by unfold Scr; omega)).1, (d2 81 (by unfold Scr; omega)).1]
      exact h2 k r hk (by omega)
theorem v_X3_work {F : Nat} (hF : 2000 ≤ F) {w : Wd} (okt : okT w 5) {R : Nat} (hR : R ≤ 8) (eR : gI w 6 2 = nI R) {c : Nat} {f : Nf} (hn : NtC w c f) (b : Bl) (hb : bC w 25 = restB b) : ∃ w2, P_X3_work F w 5 25 = some w2 ∧ Fr NP w w2 ∧ ∀ k r, k < 6 → r < 8 → gI w2 80 (k * 8 + r) = nI (Vw (ftT (tC w 5) b R c f) k r) ∧ gI w2 81 (k * 8 + r) = nI (Ww (ftT (tC w 5) b R c f) (5 - k) r) := by
  generalize hft : ftT (tC w 5) b R c f = ft
  obtain ⟨w1, a1, a2, a3⟩ := l_X3_work hF okt hR eR hn b hb (fun w  => L_X3_work_99 F 5 25 (fun w  => some w) F w 1) 8 0 rfl F (by omega) w Fr.rfl' (fun k r _ hr => absurd hr (Nat.not_lt_zero _))
  rw [hft] at a3
  unfold P_X3_work
  rw [show L_X3_work_2 F 5 25 _ F w 0 = _ from a1]
  have key : ∀ m j, j + m = 6 → 1 ≤ j → ∀ n, m < n → ∀ u, Fr NP w u → (∀ k r, k < 6 → r < 8 → gI u 80 (k * 8 + r) = nI (if k < j then Vw ft k r else b01 (ft k r)) ∧ gI u 81 (k * 8 + r) = nI (if 6 - j ≤ k then Ww ft (5 - k) r else b01 (ft k r))) → ∃ w2, L_X3_work_99 F 5 25 (fun w => some w) n u (nI j) = some w2 ∧ Fr NP w w2 ∧ ∀ k r, k < 6 → r < 8 → gI w2 80 (k * 8 + r) = nI (Vw ft k r) ∧ gI w2 81 (k * 8 + r) = nI (Ww ft (5 - k) r) := by
    intro m
    induction m with
    | zero =>
      intro j hj _ n hn2 u h1 h2
      obtain ⟨n, rfl⟩ : ∃ q, n = q + 1 := ⟨n - 1, by omega⟩
      obtain rfl : j = 6 := by omega
      rw [L_X3_work_99, if_pos (show (6 : Int32) ≤ nI 6 from Int32.le_refl _)]
      refine ⟨u, rfl, h1, fun k r hk hr => ?_⟩
      have := h2 k r hk hr
      rw [if_pos hk, if_pos (by omega)] at this
      exact this
    | succ m ih =>
      intro j hj hj1 n hn2 u h1 h2
      obtain ⟨n, rfl⟩ : ∃ q, n = q + 1 := ⟨n - 1, by omega⟩
      rw [L_X3_work_99, if_neg (show ¬ (6 : Int32) ≤ nI j from nI_ge (a := j) (b := 6) (by omega) (by decide)), show nI j - 1 = nI (j - 1) from pk_sub (a := j) (b := 1) hj1, show 6 - nI j = nI (6 - j) from pk_sub (a := 6) (b := j) (by omega), show 5 - nI j = nI (5 - j) from pk_sub (a := 5) (b := j) (by omega)]
      obtain ⟨u1, b1, b2, b3, b4⟩ := v_X3_goOn (F := F) (by omega) u (a := 80) (.inl rfl) (j - 1) j (by omega) (by omega) (by omega) (Vw ft (j - 1)) (fun r => b01 (ft j r)) (fun r hr => by rw [(h2 (j - 1) r (by omega) hr).1, if_pos (by omega)]) (fun r hr => by rw [(h2 j r (by omega) hr).1, if_neg (Nat.lt_irrefl _)]) (fun r _ => Nat.le_trans (Vw_le ft _ r) (p8 (by omega)))
      obtain ⟨u2, c1, c2, c3, c4⟩ := v_X3_goOn (F := F) (by omega) u1 (a := 81) (.inr rfl) (6 - j) (5 - j) (by omega) (by omega) (by omega) (Ww ft (j - 1)) (fun r => b01 (ft (5 - j) r)) (fun r hr => by rw [(b2 81 (by decide)).1, (h2 (6 - j) r (by omega) hr).2, if_pos (by omega), show 5 - (6 - j) = j - 1 by omega]) (fun r hr => by rw [(b2 81 (by decide)).1, (h2 (5 - j) r (by omega) hr).2, if_neg (by omega)]) (fun r _ => Nat.le_trans (Ww_le ft _ r) (p8 (by omega)))
      rw [bnv_r b1, bnv_r c1, lt_v, nI_1]
      refine ih (j + 1) (by omega) (by omega) n (by omega) u2 ((h1.tr (b2.imp (fun _ h => Or.inr (Or.inl h))) (fun _ h => h) (fun _ h => h)).tr (c2.imp (fun _ h => Or.inr (Or.inr h))) (fun _ h => h) (fun _ h => h)) (fun k r hk hr => ⟨?_, ?_⟩)
      · rw [(c2 80 (by decide)).1]
        by_cases hkj : k = j
        · subst hkj
          rw [b3 r hr, if_pos (by omega)]
          obtain ⟨j', rfl⟩ : ∃ q, k = q + 1 := ⟨k - 1, by omega⟩
          rfl
        · rw [b4 _ (by omega), (h2 k r hk hr).1]
          by_cases hq : k < j
          · rw [if_pos hq, if_pos (by omega)]
          · rw [if_neg hq, if_neg (by omega)]
      · by_cases hkj : k = 5 - j
        · subst hkj
          rw [c3 r hr, if_pos (by omega), show 5 - (5 - j) = j by omega]
          obtain ⟨j', rfl⟩ : ∃ q, j = q + 1 := ⟨j - 1, by omega⟩
          show nI (b01 (ft (5 - (j' + 1)) r) * oth (Ww ft (j' + 1 - 1)) r) = nI (b01 (ft (4 - j') r) * oth (Ww ft j') r)
          rw [show 5 - (j' + 1) = 4 - j' by omega]
          rfl
        · rw [c4 _ (by omega), (b2 81 (by decide)).1, (h2 k r hk hr).2]
          by_cases hq : 6 - j ≤ k
          · rw [if_pos hq, if_pos (by omega)]
          · rw [if_neg hq, if_neg (by omega)]
  refine key 5 1 rfl (Nat.le_refl _) F (by omega) w1 a2 (fun k r hk hr => ?_)
  obtain ⟨q1, q2⟩ := a3 k r hk hr
  rw [q1, q2]
  refine ⟨?_, ?_⟩
  · by_cases hk0 : k < 1
    · obtain rfl : k = 0 := by omega
      rw [if_pos hk0]; rfl
    · rw [if_neg hk0]
  · by_cases hk5 : 6 - 1 ≤ k
    · obtain rfl : k = 5 := by omega
      rw [if_pos hk5]; rfl
    · rw [if_neg hk5]
theorem v_X1_rest {F : Nat} (hF : 100 ≤ F) (w : Wd) (a : Nat) : ∃ w2, P_X1_rest F w a = some w2 ∧ Fr (fun b => b = a + 1) w w2 ∧ bC w2 a = restB (bC w a) := by
  have key : ∀ m j, j + m = 8 → ∀ n, m < n → ∀ v, Fr (fun b => b = a + 1) w v → (∀ k, k < j → gI v (a + 1) k = 0) → ∃ w2, L_X1_rest_2 F a (fun w => some w) n v (nI j) = some w2 ∧ Fr (fun b => b = a + 1) w w2 ∧ ∀ k, k < 8 → gI w2 (a + 1) k = 0 := by
    intro m
    induction m with
    | zero =>
      intro j hj n hn v h1 h2
      obtain ⟨n, rfl⟩ : ∃ q, n = q + 1 := ⟨n - 1, by omega⟩
      obtain rfl : j = 8 := by omega
      rw [L_X1_rest_2, if_pos (n8le (by omega) (lt31 (by omega)))]
      exact ⟨v, rfl, h1, h2⟩
    | succ m ih =>
      intro j hj n hn v h1 h2
      obtain ⟨n, rfl⟩ : ∃ q, n = q + 1 := ⟨n - 1, by omega⟩
      rw [L_X1_rest_2, if_neg (n8gt (by omega)), gd_t (inB_n (show j < 8 by omega) (lt31 (by omega))), lt_v, lt_v, nI_1, nI_clamp (lt31 (by omega))]
      refine ih (j + 1) (by omega) n (by omega) _ (h1.tr Fr.ofI (fun _ h => h) (fun _ h => h)) (fun k hk => ?_)
      by_cases hkj : k = j
      · subst hkj; exact gIs
      · rw [gIk hkj]; exact h2 k (by omega)
  obtain ⟨w2, e1, e2, e3⟩ := key 8 0 rfl F (by omega) w Fr.rfl' (fun k hk => absurd hk (Nat.not_lt_zero _))
  refine ⟨w2, e1, e2, ?_⟩
  funext k
  show bC w2 a k = if k < 8 then 0 else bC w a k
  unfold bC
  by_cases h8 : k < 8
  · rw [if_pos h8, if_pos h8, e3 k h8]
  · rw [if_neg h8, if_neg h8]
    by_cases h16 : k < 16
    · rw [if_pos h16, if_neg h8, if_pos h16, (e2 a (by omega)).1]
    · rw [if_neg h16, if_neg h8, if_neg h16]
/-- what a question about the night may change -/
def NQ (b : Nat) : Prop := SP b ∨ b = 80 ∨ b = 81
theorem v_X10_countRows {F : Nat} (hF : 2000 ≤ F) {w : Wd} (s : St w) {R : Nat} (hR : R ≤ 8) (eR : gI w 6 2 = nI R) {c : Nat} {f : Nf} (hn : NtC w c f) : ∃ w2, P_X10_countRows F w = some w2 ∧ Fr NQ w w2 ∧ ∀ k r, k < 6 → r < 8 → gI w2 80 (k * 8 + r) = nI (Vw (ftT (tC w 5) (bC w 23) R c f) k r) ∧ gI w2 81 (k * 8 + r) = nI (Ww (ftT (tC w 5) (bC w 23) R c f) (5 - k) r) := by
  obtain ⟨w1, a1, a2, -⟩ := sim_start (F := F) (by omega) (w := w) (w1 := w) Fr.rfl'
  obtain ⟨w2, b1, b2, b3⟩ := v_X1_rest (F := F) (by omega) w1 25
  rw [a2.2] at b3
  have f2 : Fr SP w w2 := a2.1.tr b2 (fun _ h => h) (fun b h => .inr (by omega))
  have hT := tC_fr Kp_SP f2 s.1
  obtain ⟨w3, c1, c2, c3⟩ := v_X3_work hF (okT_fr Kp_SP f2 s.1) hR (by rw [(f2 6 (by unfold SP Scr; omega)).1]; exact eR) (NtC_fr hn f2 (fun b h => by unfold SP Scr at h; omega)) (bC w 23) b3
  rw [hT] at c3
  unfold P_X10_countRows
  rw [bnv_r a1, bnv_r b1, bnv_r c1]
  exact ⟨w3, rfl, (f2.imp (fun _ h => Or.inl h)).tr (c2.imp (fun b h => by rcases h with h | h; exact .inl (.inl h); exact .inr h)) (fun _ h => h) (fun _ h => h), c3⟩
