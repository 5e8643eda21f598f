-- ===== what the law's loop asks =====
def EP (E : Ex) (x : Sk) : Ex := fun A U => E A U ∧ StrAt x A U U.heap
theorem EP.stb {E : Ex} (hE : Stb E) (x : Sk) : Stb (EP E x) :=
  ⟨fun A B s U h hW hq hAB => ⟨hE.1 A B s U h.1 hW hq hAB, h.2.mv hW.alike hq hAB⟩, fun A U g mk a h => ⟨hE.2 A U g mk a h.1, StrAt.mv (U := U.calling g mk a) h.2 (Vm.Alike.refl U.vm) (fun _ _ _ => rfl) (fun _ z => z)⟩⟩
theorem Ecall.ep {S : Sx} {K : Kx} {A : Nat → Prop} {E : Ex} {bl sub rst : Bk} {s v : Nat} {l : List Int32} (hF : ∀ (A : Nat → Prop) (s : State), E A s → KF S K A s s.heap) (hbl : bl = sub ++ rst) (j : Nat) (hs : rst[j]? = some (stD K s v l)) : Ecall S K A E (EP E (s, v, l)) bl sub := fun U hP hD hK hw hE => ⟨hE, (Ecall.str hF hbl j hs U hP hD hK hw hE).2⟩
/-- a line as far as it is told: none, or a text of ours -/
def lnC (K : Kx) (s v : Nat) (l : List Int32) : va_W := if l = [] then [] else stD K s v l
theorem Ecall.ln {S : Sx} {K : Kx} {A : Nat → Prop} {E : Ex} {bl sub rst : Bk} {s v : Nat} {l : List Int32} (hF : ∀ (A : Nat → Prop) (s : State), E A s → KF S K A s s.heap) (hl : l = [] → s = adK S 1 ∧ v = adV S 1) (hbl : bl = sub ++ rst) (j : Nat) (hs : rst[j]? = some (lnC K s v l)) : Ecall S K A E (EP E (s, v, l)) bl sub := by
  by_cases c : l = []
  · obtain ⟨rfl, rfl⟩ := hl c
    subst c
    exact fun U hP hD hK hw hE => ⟨hE, kt_at (k := 1) (hF _ _ hE) (by decide)⟩
  · unfold lnC at hs
    rw [if_neg c] at hs
    exact Ecall.ep hF hbl j hs
theorem lnC_st {K : Kx} {s v : Nat} {l : List Int32} (h : l ≠ []) : lnC K s v l = stD K s v l := if_neg h
-- the towers kept, the latest first
abbrev Wz : Type := List (Option ((Nat → Nat) × Bl))
def oa (o : Option ((Nat → Nat) × Bl)) : Option Nat := o.map fun x => x.1 0
def esW (v : Wz) : List (Option Nat) := (v.map oa).reverse
def wasC (S : Sx) (n p : Nat) : Wz → va_W
  | [] => []
  | none :: v => wasC S n p v
  | some x :: v => stB S n p x.1 x.2 ++ wasC S n p v
def RelW (v : Wz) (u : Us) : Prop := v.length = u.length ∧ ∀ (i : Nat) (x : (Nat → Nat) × Bl), v[i]? = some (some x) → u[i]? = some x.2
theorem esW_len (v : Wz) : (esW v).length = v.length := by unfold esW; rw [List.length_reverse, List.length_map]
theorem esW_push (o : Option ((Nat → Nat) × Bl)) (v : Wz) : esW (o :: v) = esW v ++ [oa o] := by unfold esW; rw [List.map_cons, List.reverse_cons]
theorem esW_tail (o : Option ((Nat → Nat) × Bl)) (v : Wz) : (esW (o :: v)).eraseIdx v.length = esW v := by
  rw [esW_push, List.eraseIdx_append_of_length_le (by rw [esW_len]; exact Nat.le_refl _), esW_len, Nat.sub_self]
  simp
theorem esW_drop (v : Wz) : (esW v).eraseIdx 0 = esW v.dropLast := by
  unfold esW
  rw [List.eraseIdx_zero, List.tail_reverse, List.map_dropLast]
theorem esW_last (o : Option ((Nat → Nat) × Bl)) (v : Wz) : elF (esW (o :: v)) v.length = oa o := by
  unfold elF
  rw [esW_push, List.getD_eq_getElem?_getD, List.getElem?_append_right (by rw [esW_len]; exact Nat.le_refl _), esW_len, Nat.sub_self]
  rfl
theorem wasC_app (S : Sx) (n p : Nat) (v1 v2 : Wz) : wasC S n p (v1 ++ v2) = wasC S n p v1 ++ wasC S n p v2 := by
  induction v1 with
  | nil => rfl
  | cons o v1 ih =>
    cases o with
    | none => exact ih
    | some x =>
      show stB S n p x.1 x.2 ++ wasC S n p (v1 ++ v2) = (stB S n p x.1 x.2 ++ wasC S n p v1) ++ wasC S n p v2
      rw [ih, List.append_assoc]
theorem wasC_drop (S : Sx) (n p : Nat) (v : Wz) : ∃ z, wasC S n p v = wasC S n p v.dropLast ++ z := by
  by_cases c : v = []
  · subst c; exact ⟨[], rfl⟩
  · refine ⟨wasC S n p [v.getLast c], ?_⟩
    rw [← wasC_app, List.dropLast_concat_getLast]
theorem wasC_mem {S : Sx} {n p : Nat} {x : (Nat → Nat) × Bl} : ∀ {v : Wz}, some x ∈ v → ∃ vs, (x.1 0, Sum.inr (13, vs)) ∈ wasC S n p v := by
  intro v
  induction v with
  | nil => intro h; cases h
  | cons o v ih =>
    intro h
    rcases List.mem_cons.mp h with h | h
    · subst h
      exact ⟨_, List.mem_append_left _ List.mem_cons_self⟩
    · obtain ⟨vs, hv⟩ := ih h
      cases o with
      | none => exact ⟨vs, hv⟩
      | some y => exact ⟨vs, List.mem_append_right _ hv⟩
theorem kept_was (S : Sx) (n p : Nat) (v : Wz) : Kept (wasC S n p v) (elF (esW v)) := by
  intro k y h
  unfold elF at h
  rw [List.getD_eq_getElem?_getD] at h
  have hm : some y ∈ esW v := by
    cases e : (esW v)[k]? with
    | none => rw [e] at h; cases h
    | some o =>
      rw [e] at h
      have h2 : o = some y := h
      rw [← h2]
      exact List.mem_of_getElem? e
  unfold esW at hm
  rw [List.mem_reverse] at hm
  obtain ⟨o, ho, e⟩ := List.mem_map.mp hm
  cases o with
  | none => cases e
  | some x =>
    have e2 : x.1 0 = y := Option.some.inj e
    obtain ⟨vs, hv⟩ := wasC_mem (S := S) (n := n) (p := p) ho
    rw [e2] at hv
    obtain ⟨i, hi⟩ := List.getElem?_of_mem hv
    exact ⟨i, vs, hi⟩
/-- one more kept: the oldest of fifteen goes -/
def cutW (v : Wz) : Wz := if v.length = 15 then v.dropLast else v
theorem cut_len {v : Wz} (h : v.length ≤ 15) : (cutW v).length ≤ 14 := by
  unfold cutW
  split
  · rw [List.length_dropLast]; omega
  · omega
theorem RelW_push {v : Wz} {u : Us} {a : Nat → Nat} {q : Bl} (h : RelW v u) (hl : v.length ≤ 15) : RelW (some (a, q) :: cutW v) (psh q u) := by
  obtain ⟨h1, h2⟩ := h
  have key : ∀ i o, (cutW v)[i]? = some o → v[i]? = some o ∧ i < 14 := by
    intro i o e
    have hi := (List.getElem?_eq_some_iff.mp e).1
    have h14 := cut_len hl
    refine ⟨?_, by omega⟩
    unfold cutW at e hi
    split at e
    · rw [List.getElem?_dropLast] at e
      split at e
      · exact e
      · cases e
    · exact e
  refine ⟨?_, fun i x e => ?_⟩
  · show (cutW v).length + 1 = (List.take 15 (q :: u)).length
    rw [List.length_take, List.length_cons, ← h1]
    unfold cutW
    split
    · rw [List.length_dropLast]; omega
    · omega
  · unfold psh
    cases i with
    | zero =>
      have e2 : some (a, q) = some x := Option.some.inj e
      rw [← Option.some.inj e2]
      rfl
    | succ i =>
      have e2 : (cutW v)[i]? = some (some x) := e
      obtain ⟨k1, k2⟩ := key i _ e2
      rw [List.getElem?_take, if_pos (by omega)]
      exact h2 i x k1
theorem RelW_pop {o : Option ((Nat → Nat) × Bl)} {v : Wz} {u : Us} (h : RelW (o :: v) u) : ∃ b u', u = b :: u' ∧ RelW v u' ∧ ∀ x, o = some x → b = x.2 := by
  obtain ⟨h1, h2⟩ := h
  cases u with
  | nil => cases h1
  | cons b u' =>
    refine ⟨b, u', rfl, ⟨Nat.succ.inj h1, fun i x e => h2 (i + 1) x e⟩, fun x e => ?_⟩
    exact Option.some.inj (h2 0 x (by rw [e]; rfl))
theorem RelW_none (k : Nat) (u : Us) (h : k = u.length) : RelW (List.replicate k none) u := by
  refine ⟨by rw [List.length_replicate, h], fun i x e => ?_⟩
  have := List.eq_of_mem_replicate (List.mem_of_getElem? e)
  cases this
theorem wasC_none (S : Sx) (n p : Nat) : ∀ k, wasC S n p (List.replicate k none) = [] := by
  intro k
  induction k with
  | zero => rfl
  | succ k ih => exact ih
/-- the list's array, at every length -/
def LsI (K : Kx) (cap el : Nat) (es : List (Option Nat)) : Prop := (cap = 0 ∧ es = [] ∧ el = K.2 3) ∨ (cap = 10 ∧ es.length ≤ 10) ∨ (cap = 15 ∧ es.length ≤ 15)
theorem Ls_add {K : Kx} {cap el : Nat} {es : List (Option Nat)} (h : LsI K cap el es) (hl : es.length < 15) : (cap = 0 ∧ es = [] ∧ el = K.2 3) ∨ (cap = 10 ∧ es.length ≤ 10) ∨ (cap = 15 ∧ es.length < 15) := by
  rcases h with h | h | h
  · exact .inl h
  · exact .inr (.inl h)
  · exact .inr (.inr ⟨h.1, hl⟩)
theorem Ls_new {K : Kx} {cap el el2 : Nat} {es : List (Option Nat)} {o : Option Nat} (h : LsI K cap el es) (hl : es.length < 15) : LsI K (capN cap es.length) el2 (es ++ [o]) := by
  have e : (es ++ [o]).length = es.length + 1 := by rw [List.length_append]; rfl
  unfold LsI
  rw [e]
  rcases h with ⟨h1, h2, -⟩ | ⟨h1, h2⟩ | ⟨h1, h2⟩
  · refine .inr (.inl ⟨?_, ?_⟩)
    · unfold capN; rw [if_pos h1]
    · rw [h2]; decide
  · by_cases c : es.length = 10
    · refine .inr (.inr ⟨?_, by omega⟩)
      unfold capN; rw [if_neg (by omega), if_pos (by omega)]
    · refine .inr (.inl ⟨?_, by omega⟩)
      unfold capN; rw [if_neg (by omega), if_neg (by omega)]; exact h1
  · refine .inr (.inr ⟨?_, by omega⟩)
    unfold capN; rw [if_neg (by omega), if_neg (by omega)]; exact h1
theorem Ls_pos {K : Kx} {cap el m : Nat} {es : List (Option Nat)} (h : LsI K cap el es) (hm : es.length = m + 1) : es.length ≤ cap ∧ cap ≤ 15 ∧ cap ≠ 0 := by
  rcases h with ⟨h1, h2, -⟩ | ⟨h1, h2⟩ | ⟨h1, h2⟩
  · rw [h2] at hm; cases hm
  · exact ⟨by omega, by omega, by omega⟩
  · exact ⟨by omega, by omega, by omega⟩
theorem Ls_less {K : Kx} {cap el m : Nat} {es es2 : List (Option Nat)} (h : LsI K cap el es) (hm : es.length = m + 1) (h2 : es2.length ≤ m) : LsI K cap el es2 := by
  rcases h with ⟨h1, h3, -⟩ | ⟨h1, h3⟩ | ⟨h1, h3⟩
  · rw [h3] at hm; cases hm
  · exact .inr (.inl ⟨h1, by omega⟩)
  · exact .inr (.inr ⟨h1, by omega⟩)
theorem arB_c {K : Kx} {el cap : Nat} {f : Nat → Option Nat} (h : cap ≠ 0) : arB K el cap f = [(el, .inl (K.1 2, cap, .inr (.inr (.inr (.inr f)))))] := if_neg h
theorem q_ul {w : Wd} {T : Tw} {b : Bl} {r p n : Nat} {u : Us} {t : Nat → Int32} {L : List Int64} (h : CQ w T b r p u t n L) : u.length ≤ 15 := by
  obtain ⟨K, N, c, f, kp, hC, -⟩ := h
  obtain ⟨-, -, -, -, -, -, ⟨s, s1, s2, s3, s4, -⟩, -⟩ := hC
  omega
-- ===== what is done, answer by answer =====
section QH
variable {w : Wd} {T : Tw} {b : Bl} {r p n : Nat} {u : Us} {t : Nat → Int32} {L : List Int64}
theorem mn_val {K : Nat} (hq : BlI b r p K) {v : Nat} (hv : v < 100) : ¬ minI 99 (b 9 + nI v) < 0 := by
  obtain ⟨s, s1, s2⟩ := nI_of2 (M := 99) (n := 99) rfl hq.1.2 (Int32.not_lt.mp hq.2.2.1)
  rw [s2, nI_add]
  unfold minI
  split
  · exact nI_pos (by omega)
  · decide
theorem q_mend1 (h : CQ w T b r p u t n L) {v : Nat} (h0 : 0 < v) (h1 : v < 100) : ∃ w1, P_X10_mend 10000 w (nI v) = some (minI 99 (b 9 + nI v), w1) ∧ CQ w1 T (setB b 9 (minI 99 (b 9 + nI v))) r p (psh b u) t n L := by
  obtain ⟨N, K, ok, hq⟩ := q_ok h
  obtain ⟨w1, e, g⟩ := q_mend h (nI v)
  have z : mnP b (nI v) = (minI 99 (b 9 + nI v), setB b 9 (minI 99 (b 9 + nI v))) := by
    unfold mnP
    rw [if_neg (show ¬ nI v < 1 from nI_nlt (a := v) (b := 1) (by omega) (by omega)), if_pos (show nI v ≤ 99 from nI_le (a := v) (b := 99) (by omega) (by decide))]
  rw [z] at e g
  have hp : pshU (minI 99 (b 9 + nI v)) b u = psh b u := if_neg (mn_val hq h1)
  exact ⟨w1, e, by rw [← hp]; exact g⟩
theorem q_mend0 (h : CQ w T b r p u t n L) {v : Nat} (h0 : v = 0 ∨ v = 100) : ∃ w1, P_X10_mend 10000 w (nI v) = some (-1, w1) ∧ CQ w1 T b r p u t n L := by
  obtain ⟨w1, e, g⟩ := q_mend h (nI v)
  have z : mnP b (nI v) = (-1, b) := by
    unfold mnP
    rcases h0 with rfl | rfl
    · rw [if_pos (by decide)]
    · rw [if_neg (by decide), if_neg (by decide)]
  rw [z] at e g
  exact ⟨w1, e, g⟩
theorem q_minX (h : CQ w T b r p u t n L) {x : Int32} (hx : x = 121 ∨ x = -1) : ∃ w1, P_X10_minutes 10000 w x = some (-1, w1) ∧ CQ w1 T b r p u t n L := by
  obtain ⟨w1, e, g⟩ := q_minutes h x
  have z : psP T b x = (-1, b) := by
    unfold psP
    rcases hx with rfl | rfl
    · rw [if_neg (by decide), if_neg (by decide)]
    · rw [if_pos (by decide)]
  have z2 : qMin T b x = (-1, none) := by
    unfold qMin
    rw [z, if_pos (show (-1 : Int32) < 0 by decide)]
  rw [z2] at e g
  rw [z] at g
  exact ⟨w1, e, g⟩
theorem q_takeX (h : CQ w T b r p u t n L) (x : Int32) : ∃ w1, P_X10_take 10000 w x = some ((tkP r b x).1, w1) ∧ ((tkP r b x).1 < 0 → CQ w1 T (tkP r b x).2 r p u t n L) ∧ (¬ (tkP r b x).1 < 0 → CQ w1 T (tkP r b x).2 r p (psh b u) t n L) := by
  obtain ⟨w1, e, g⟩ := q_take h x
  unfold pshU at g
  exact ⟨w1, e, fun z => by rw [if_pos z] at g; exact g, fun z => by rw [if_neg z] at g; exact g⟩
theorem q_leaveX (h : CQ w T b r p u t n L) (x : Int32) : ∃ w1, P_X10_leave 10000 w x = some ((lvP r b x).1, w1) ∧ ((lvP r b x).1 < 0 → CQ w1 T (lvP r b x).2 r p u t n L) ∧ (¬ (lvP r b x).1 < 0 → CQ w1 T (lvP r b x).2 r p (psh b u) t n L) := by
  obtain ⟨w1, e, g⟩ := q_leave h x
  unfold pshU at g
  exact ⟨w1, e, fun z => by rw [if_pos z] at g; exact g, fun z => by rw [if_neg z] at g; exact g⟩
end QH
theorem stB_set9 (S : Sx) (n p : Nat) (a : Nat → Nat) (q : Bl) (x : Int32) : stB S n p a (setB q 9 x) = stC S n p a (tir q) (rop q) (dou q) x (q 10) (q 11) (q 12) (q 13) (q 14) := by
  unfold stB
  have e1 : tir (setB q 9 x) = tir q := by
    funext k
    unfold tir setB
    by_cases h : k < 8
    · rw [if_pos h, if_pos h, if_neg (by omega)]
    · rw [if_neg h, if_neg h]
  rw [e1, show rop (setB q 9 x) = rop q from rfl, show dou (setB q 9 x) = dou q from rfl]
  rfl
