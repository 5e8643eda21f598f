-- ===== pictures of the world: reading what was written =====
theorem gI_sI (w : Wd) (a k : Nat) (v : Int32) (b j : Nat) : gI (sI w a k v) b j = if b = a then (if j = k then v else gI w b j) else gI w b j := by
  show (va_up w.1 a (upd (w.1 a) k v)) b j = _
  unfold va_up upd
  by_cases h : b = a
  · rw [if_pos h, if_pos h]
    by_cases h2 : j = k
    · rw [if_pos h2, if_pos h2]
    · rw [if_neg h2, if_neg h2]
      show w.1 a j = w.1 b j
      rw [h]
  · rw [if_neg h, if_neg h]; rfl
theorem gJ_sI (w : Wd) (a k : Nat) (v : Int32) (b j : Nat) : gJ (sI w a k v) b j = gJ w b j := rfl
theorem gI_sJ (w : Wd) (a k : Nat) (v : Int64) (b j : Nat) : gI (sJ w a k v) b j = gI w b j := rfl
theorem gJ_sJ (w : Wd) (a k : Nat) (v : Int64) (b j : Nat) : gJ (sJ w a k v) b j = if b = a then (if j = k then v else gJ w b j) else gJ w b j := by
  show (va_up w.2.1 a (vp_updL (w.2.1 a) k v)) b j = _
  unfold va_up vp_updL
  by_cases h : b = a
  · rw [if_pos h, if_pos h]
    by_cases h2 : j = k
    · rw [if_pos h2, if_pos h2]
    · rw [if_neg h2, if_neg h2]
      show w.2.1 a j = w.2.1 b j
      rw [h]
  · rw [if_neg h, if_neg h]; rfl
theorem gR_sR (w : Wd) (a k : Nat) (v : Nat) (b j : Nat) : gR (sR w a k v) b j = if b = a then (if j = k then v else gR w b j) else gR w b j := by
  show (va_up w.2.2 a (va_up (w.2.2 a) k v)) b j = _
  unfold va_up
  by_cases h : b = a
  · rw [if_pos h, if_pos h]
    by_cases h2 : j = k
    · rw [if_pos h2, if_pos h2]
    · rw [if_neg h2, if_neg h2]
      show w.2.2 a j = w.2.2 b j
      rw [h]
  · rw [if_neg h, if_neg h]; rfl
-- ===== what stays: outside of some places =====
def Fr (p : Nat → Prop) (w w2 : Wd) : Prop := ∀ a, ¬ p a → (∀ k, gI w2 a k = gI w a k) ∧ (∀ k, gJ w2 a k = gJ w a k) ∧ (∀ k, gR w2 a k = gR w a k)
theorem Fr.rfl' {p : Nat → Prop} {w : Wd} : Fr p w w := fun _ _ => ⟨fun _ => rfl, fun _ => rfl, fun _ => rfl⟩
theorem Fr.tr {p q r : Nat → Prop} {w w1 w2 : Wd} (h1 : Fr p w w1) (h2 : Fr q w1 w2) (hp : ∀ a, p a → r a) (hq : ∀ a, q a → r a) : Fr r w w2 := fun a ha => by
  obtain ⟨a1, a2, a3⟩ := h1 a (fun h => ha (hp a h))
  obtain ⟨b1, b2, b3⟩ := h2 a (fun h => ha (hq a h))
  exact ⟨fun k => (b1 k).trans (a1 k), fun k => (b2 k).trans (a2 k), fun k => (b3 k).trans (a3 k)⟩
theorem Fr.imp {p q : Nat → Prop} {w w1 : Wd} (h1 : Fr p w w1) (hp : ∀ a, p a → q a) : Fr q w w1 := fun a ha => h1 a (fun h => ha (hp a h))
theorem Fr.ofI {w : Wd} {a k : Nat} {v : Int32} : Fr (fun b => b = a) w (sI w a k v) := fun b hb => ⟨fun j => by rw [gI_sI, if_neg hb], fun _ => rfl, fun _ => rfl⟩
theorem Fr.ofJ {w : Wd} {a k : Nat} {v : Int64} : Fr (fun b => b = a) w (sJ w a k v) := fun b hb => ⟨fun _ => rfl, fun j => by rw [gJ_sJ, if_neg hb], fun _ => rfl⟩
theorem Fr.ofR {w : Wd} {a k : Nat} {v : Nat} : Fr (fun b => b = a) w (sR w a k v) := fun b hb => ⟨fun _ => rfl, fun _ => rfl, fun j => by rw [gR_sR, if_neg hb]⟩
-- ===== programs put by =====
theorem gd_t {β : Type _} {c : Bool} {x : Option β} (h : c = true) : gd c x = x := by unfold gd; rw [if_pos h]
theorem lt_v {α β : Sort _} (v : α) (f : α → β) : lt v f = f v := rfl
theorem bnd_s {α β : Type _} {v : α} {w : Wd} (f : α → Wd → Option β) : bnd (some (v, w)) f = f v w := rfl
theorem bnd_r {α β : Type _} {o : Option (α × Wd)} {v : α} {w : Wd} (h : o = some (v, w)) (f : α → Wd → Option β) : bnd o f = f v w := by rw [h]; rfl
theorem bnv_r {β : Type _} {o : Option Wd} {w : Wd} (h : o = some w) (f : Wd → Option β) : bnv o f = f w := by rw [h]; rfl
theorem inB_n {j N : Nat} (h : j < N) (hj : j < 2 ^ 31) : inB (nI j) N = true := by
  unfold inB
  rw [nI_clamp hj, decide_eq_false (nI_pos hj), decide_eq_false (by omega)]
  rfl
theorem isZO_i {c : Prop} [Decidable c] : isZO (if c then 0 else 1) = true := by split <;> decide
theorem isZO_j {c : Prop} [Decidable c] : isZO (if c then 1 else 0) = true := by split <;> decide
-- ===== numbers =====
theorem i0 : (0 : Int32) = nI 0 := rfl
/-- the k-th bit -/
def bt (s : Int32) (k : Nat) : Int32 := ishrI s (nI k) &&& 1
theorem and1 (x : Int32) : x &&& 1 = 0 ∨ x &&& 1 = 1 := by
  obtain ⟨j, hj, e⟩ := pk_andE x (m := 1) 1 rfl
  rw [e]
  rcases (show j = 0 ∨ j = 1 by omega) with rfl | rfl
  · exact .inl rfl
  · exact .inr rfl
theorem bt01 (s : Int32) (k : Nat) : bt s k = 0 ∨ bt s k = 1 := and1 _
/-- a sum of so many, from one on -/
def sumR (f : Nat → Int32) : Nat → Nat → Int32
  | _, 0 => 0
  | j, m + 1 => f j + sumR f (j + 1) m
def orR (f : Nat → Int32) : Nat → Nat → Int32
  | _, 0 => 0
  | j, m + 1 => f j ||| orR f (j + 1) m
theorem sumR_congr {f g : Nat → Int32} : ∀ (m j : Nat), (∀ i, j ≤ i → i < j + m → f i = g i) → sumR f j m = sumR g j m := by
  intro m
  induction m with
  | zero => intro j _; rfl
  | succ m ih =>
    intro j h
    show f j + _ = g j + _
    rw [h j (Nat.le_refl _) (by omega), ih (j + 1) (fun i h1 h2 => h i (by omega) (by omega))]
theorem or0 (x : Int32) : x ||| 0 = x := Int32.or_zero
theorem zor (x : Int32) : 0 ||| x = x := Int32.zero_or
theorem addA (a b c : Int32) : a + b + c = a + (b + c) := Int32.add_assoc a b c
theorem orA (a b c : Int32) : a ||| b ||| c = a ||| (b ||| c) := Int32.or_assoc a b c
theorem add0 (x : Int32) : x + 0 = x := Int32.add_zero x
theorem zadd (x : Int32) : 0 + x = x := Int32.zero_add x
/-- how many bits, as the library counts them -/
def bc (x1 : Int32) : Int32 :=
  lt (x1 - ((iushrI x1 1) &&& 1431655765) : Int32) (fun x2 => lt ((x2 &&& 858993459) + ((iushrI x2 2) &&& 858993459) : Int32) (fun x3 => lt ((x3 + (iushrI x3 4)) &&& 252645135 : Int32) (fun x4 => lt (x4 + (iushrI x4 8) : Int32) (fun x5 => lt (x5 + (iushrI x5 16) : Int32) (fun x6 => x6 &&& 63)))))
theorem v_bc (F : Nat) (w : Wd) (x : Int32) : P_J6_bitCount_0f7a4 F w x = some (bc x, w) := rfl
-- ===== the tower: strengths, fees, ears, needs; how many, weight, frost, most; the rule; its length =====
abbrev Tw : Type := Nat → Nat → Int32
abbrev Bl : Type := Nat → Int32
/-- a rule's word of the class, as the model has it -/
def trc (c : Int32) : Int32 := if c < 1010 then c else if c = 1136 then 3000 else if c = 1070 then 2000 else if c = 1072 then 2001 else if c = 1071 then 2002 else if c = 1053 then 2003 else if c = 1055 then 2004 else if c = 1052 then 2005 else if c = 1057 then 2006 else -1
def rol (w : Wd) (a p k : Nat) : Int32 := if gI w a 2 ≤ nI k then 0 else if k < 8 then gI w p k else 0
def tC (w : Wd) (t : Nat) : Tw := fun c k => match c with
  | 0 => rol w 6 7 k
  | 1 => rol w 6 8 k
  | 2 => rol w 9 10 k
  | 3 => rol w 9 11 k
  | 4 => (match k with
    | 0 => gI w 6 2
    | 1 => gI w 9 2
    | 2 => gI w t 3
    | 3 => gI w t 4
    | 4 => gI w t 5
    | _ => 0)
  | 5 => if nI k < gI w (gR w t 2) 1 then trc (gI w (gR w t 2 + 1) k) else 0
  | 6 => gI w (gR w t 2) 1
  | _ => 0
def bC (w : Wd) (a : Nat) : Bl := fun k => if k < 8 then gI w (a + 1) k else if k < 16 then gI w a (k - 7) else 0
-- ===== what is worked out =====
def opv (c a b : Int32) : Int32 := if c = 2000 then (if b ≤ a then 0 else 1) else if c = 2001 then (if a ≤ b then 0 else 1) else if c = 2002 then (if a = b then 1 else 0) else if c = 2003 then a + b else if c = 2004 then a - b else if c = 2005 then a * b else if b = 0 then 0 else a / b
/-- one word of a rule: the stack and its height -/
def stpv (v : Nat → Int32) (c : Int32) (q : (Nat → Int32) × Nat) : (Nat → Int32) × Nat :=
  if c = 3000 then (upd q.1 (q.2 - 1) (-(q.1 (q.2 - 1))), q.2)
  else if 2000 ≤ c then (upd q.1 (q.2 - 2) (opv c (q.1 (q.2 - 2)) (q.1 (q.2 - 1))), q.2 - 1)
  else (upd q.1 q.2 (if 1000 ≤ c then v (c - 1000).toNatClampNeg else c), q.2 + 1)
def runv (v : Nat → Int32) (code : Nat → Int32) : Nat → (Nat → Int32) × Nat
  | 0 => (fun _ => 0, 0)
  | n + 1 => stpv v (code n) (runv v code n)
/-- how high the stack is behind so many words -/
def hgt (code : Nat → Int32) : Nat → Nat
  | 0 => 0
  | n + 1 => if code n = 3000 then hgt code n else if 2000 ≤ code n then hgt code n - 1 else hgt code n + 1
def okw (c : Int32) : Prop := (0 ≤ c ∧ c ≤ 1006) ∨ (2000 ≤ c ∧ c ≤ 2006) ∨ c = 3000
/-- a rule that can be worked out -/
def okR (code : Nat → Int32) (n : Nat) : Prop := n ≤ 40 ∧ (∀ k, k < n → okw (code k)) ∧ (∀ k, k < n → 1 ≤ hgt code (k + 1)) ∧ (∀ k, k < n → 2000 ≤ code k → ¬ code k = 3000 → 2 ≤ hgt code k)
def vals (s t n w f r m : Int32) : Nat → Int32 := fun k => if k = 0 then s else if k = 1 then t else if k = 2 then n else if k = 3 then w else if k = 4 then f else if k = 5 then r else m
def valT (T : Tw) (s t n w f r m : Int32) : Int32 := if T 6 0 = 0 then s * 10 - t - w * 3 - f else (runv (vals s t n w f r m) (T 5) (T 6 0).toNatClampNeg).1 0
def loudT (T : Tw) (b : Bl) (they : Int32) : Int32 := if they = 0 then 0 else if b 9 = 0 then 0 else
  valT T (sumR (fun i => if bt they i = 0 then 0 else T 0 i) 0 8) (sumR (fun i => if bt they i = 0 then 0 else b i) 0 8) (bc they) (T 4 2) (T 4 3) (b 9) (iremI (b 10) 60)
def feesT (T : Tw) (they : Int32) : Int32 := sumR (fun i => bt they i * T 1 i) 0 8
def bit1 (i : Nat) : Int32 := ishlI 1 (nI i)
def hearT (T : Tw) (v : Int32) : Int32 := orR (fun i => if T 4 1 ≤ nI i then 0 else if T 2 i ≤ v then bit1 i else 0) 0 8
def movT (T : Tw) (d : Int32) : Int32 := orR (fun i => if T 3 i = 0 then 0 else if T 3 i ≤ bc (d &&& (bit1 i ^^^ (-1))) then bit1 i else 0) 0 8
/-- a minute but for the town -/
def mi0 (T : Tw) (b : Bl) : Bl := fun k =>
  if k < 8 then (if bt (b 8) k = 0 then maxI 0 (b k - 1) else minI 99 (b k + 2))
  else if k = 9 then (if loudT T b (b 8) ≤ 0 then b 9 else if iremI (b 11 + 1) 10 = 0 then maxI 0 (b 9 - 1) else b 9)
  else if k = 10 then b 10 + 1
  else if k = 11 then (if loudT T b (b 8) ≤ 0 then b 11 else b 11 + 1)
  else if k = 12 then (if loudT T b (b 8) ≤ 0 then b 12 + 1 else 0)
  else if k = 13 then (if loudT T b (b 8) ≤ 0 then (if b 12 + 1 = T 4 4 + 1 then b 13 + 1 else b 13) else b 13)
  else if k = 14 then b 14 + feesT T (b 8)
  else b k
def mi (T : Tw) (b : Bl) : Bl := fun k => if k = 15 then b 15 ||| (hearT T (mi0 T b 12) ||| movT T (b 15)) else mi0 T b k

