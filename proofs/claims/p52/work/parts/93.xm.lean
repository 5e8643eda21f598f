-- ===== a rule's text: the class, sign by sign =====
theorem byt_all : ∀ j, j < 7 → ∀ c, c < 256 → (strB 0 j = i2bI (nI c)) = (chS 0 j = nI c) := by
  have h : ∀ j, j < 7 → ∀ c, c < 256 → (strB 0 j = i2bI (nI c) ↔ chS 0 j = nI c) := by decide +kernel
  exact fun j hj c hc => propext (h j hj c hc)
theorem i2c_all : ∀ c, c < 256 → i2cI (nI c) = nI c := by decide +kernel
theorem v_J0_indexOf {F : Nat} (hF : 100 ≤ F) (w : Wd) {c : Nat} (hc : c < 256) : P_J0_indexOf_0f7a4 F w 0 (nI c) = some (amS 0 (nI c), w) := by
  have loop : ∀ m j, j + m = 7 → ∀ f, m < f → L_J1_indexOfChar_4cfef_7 F 0 (nI c) 0 (nI 7) (i2bI (nI c)) (fun w  => some ((-1), w)) f w (nI j) = some (amP (chS 0) m j (nI c), w) := by
    intro m
    induction m with
    | zero =>
      intro j hj f hf
      obtain ⟨f, rfl⟩ : ∃ q, f = q + 1 := ⟨f - 1, by omega⟩
      rw [L_J1_indexOfChar_4cfef_7, if_pos (nI_le (by omega) (by omega))]; rfl
    | succ m ih =>
      intro j hj f hf
      obtain ⟨f, rfl⟩ : ∃ q, f = q + 1 := ⟨f - 1, by omega⟩
      rw [L_J1_indexOfChar_4cfef_7, if_neg (nI_ge (by omega) (by omega)), gd_t (show inB (nI j) (strL 0) = true from inB_n (show j < 7 by omega) (by omega)), nI_clamp (by omega), amP]
      have hb := byt_all j (by omega) c hc
      by_cases d : chS 0 j = nI c
      · rw [if_pos (hb.mpr d), if_pos d]
      · rw [if_neg (fun q => d (hb.mp q)), if_neg d, lt_v, nI_1]
        exact ih (j + 1) (by omega) f (by omega)
  have e1 : P_J1_canEncode_9a6ad F w (nI c) = some (1, w) := by
    unfold P_J1_canEncode_9a6ad
    rw [if_neg (nI_pos (by omega)), if_neg (show ¬ (255 : Int32) < nI c from nI_nlt (a := 255) (b := c) (by omega) (by omega)), lt_v]; rfl
  have e2 : P_J1_indexOf_4cfef F w 0 (nI c) 0 (nI 7) = some (amS 0 (nI c), w) := by
    unfold P_J1_indexOf_4cfef
    rw [bnd_r e1, if_neg (show ¬ (1 : Int32) = 0 from by decide), lt_v, lt_v, show maxI (0 : Int32) 0 = 0 from rfl, show minI (nI 7) (nI (strL 0)) = nI 7 from rfl, if_pos (show (0 : Int32) < nI 7 from by decide)]
    have e3 : P_J1_indexOfChar_4cfef F w 0 (nI c) 0 (nI 7) = some (amS 0 (nI c), w) := by
      unfold P_J1_indexOfChar_4cfef
      rw [lt_v]
      exact loop 7 0 rfl F (by omega)
    rw [bnd_r e3]
  have e4 : P_J0_indexOf_7cf53 F w 0 (nI c) 0 = some (amS 0 (nI c), w) := by
    unfold P_J0_indexOf_7cf53
    rw [bnd_r (show P_J0_isLatin1_aae02 F w 0 = some (1, w) from rfl), if_neg (show ¬ (1 : Int32) = 0 from by decide), bnd_r (v_J0_length F w 0 (by decide)), bnd_r (show P_J1_indexOf_4cfef F w 0 (nI c) 0 (nI (strL 0)) = _ from e2)]
  unfold P_J0_indexOf_0f7a4
  rw [bnd_r e4]
section LA
variable {F : Nat} {w : Wd} {a : Nat} {t : Nat → Int32} {n e : Nat} {C W : List Int32} {d : Nat} {m : Int32} {g : Nat}
theorem LsC_g {hb : Bool} (h : LsC w a C W d m g hb) (v : Nat) : LsC (sI w a 8 (nI v)) a C W d m v hb := by
  obtain ⟨h1, h2, h3, h4, h5, h6, h7, h8⟩ := h
  exact ⟨by rw [gIk (by decide)]; exact h1, LsR_eq h2 (fun k _ => gIa (by omega)), by rw [gIk (by decide)]; exact h3, LsR_eq h4 (fun k _ => gIa (by omega)), by rw [gIk (by decide)]; exact h5, by rw [gIk (by decide)]; exact h6, gIs, by rw [gIk (by decide)]; exact h8⟩
theorem LsC_h {hb : Bool} (h : LsC w a C W d m g hb) (v : Bool) (x : Int32) (hx : x = if v then 1 else 0) : LsC (sI w a 9 x) a C W d m g v := by
  obtain ⟨h1, h2, h3, h4, h5, h6, h7, h8⟩ := h
  exact ⟨by rw [gIk (by decide)]; exact h1, LsR_eq h2 (fun k _ => gIa (by omega)), by rw [gIk (by decide)]; exact h3, LsR_eq h4 (fun k _ => gIa (by omega)), by rw [gIk (by decide)]; exact h5, by rw [gIk (by decide)]; exact h6, by rw [gIk (by decide)]; exact h7, by rw [gIs]; exact hx⟩
theorem LsC_d {hb : Bool} (h : LsC w a C W d m g hb) (v : Nat) : LsC (sI w a 6 (nI v)) a C W v m g hb := by
  obtain ⟨h1, h2, h3, h4, h5, h6, h7, h8⟩ := h
  exact ⟨by rw [gIk (by decide)]; exact h1, LsR_eq h2 (fun k _ => gIa (by omega)), by rw [gIk (by decide)]; exact h3, LsR_eq h4 (fun k _ => gIa (by omega)), gIs, by rw [gIk (by decide)]; exact h6, by rw [gIk (by decide)]; exact h7, by rw [gIk (by decide)]; exact h8⟩
theorem LsC_m {hb : Bool} (h : LsC w a C W d m g hb) (v : Int32) : LsC (sI w a 7 v) a C W d v g hb := by
  obtain ⟨h1, h2, h3, h4, h5, h6, h7, h8⟩ := h
  exact ⟨by rw [gIk (by decide)]; exact h1, LsR_eq h2 (fun k _ => gIa (by omega)), by rw [gIk (by decide)]; exact h3, LsR_eq h4 (fun k _ => gIa (by omega)), by rw [gIk (by decide)]; exact h5, gIs, by rw [gIk (by decide)]; exact h7, by rw [gIk (by decide)]; exact h8⟩
theorem LsC_pop {hb : Bool} {x : Int32} (h : LsC w a C (x :: W) d m g hb) : LsC (sI w a 5 (nI W.length)) a C W d m g hb := by
  obtain ⟨h1, h2, h3, h4, h5, h6, h7, h8⟩ := h
  exact ⟨by rw [gIk (by decide)]; exact h1, LsR_eq h2 (fun k _ => gIa (by omega)), gIs, LsR_eq h4.2 (fun k _ => gIa (by omega)), by rw [gIk (by decide)]; exact h5, by rw [gIk (by decide)]; exact h6, by rw [gIk (by decide)]; exact h7, by rw [gIk (by decide)]; exact h8⟩
theorem frS {k : Nat} {v : Int32} : Fr (LawF a) w (sI w a k v) := Fr.ofI.imp (fun b hb => .inl hb)
theorem rd_b {hb : Bool} (hx : TxC w t n) (he : e ≤ n) (h : LsC w a C W d m g hb) (K : Wd → Option (Int32 × Wd)) (f p : Nat) (hp : p < e) : L_X2_read_42 F a (nI e) K (f + 1) w (nI p) = bnd (if hb then P_X2_goOn F w a (atP t e p) else P_X2_begin F w a (atP t e p)) (fun x16 w15 => if x16 = 0 then some (nI p, w15) else L_X2_read_42 F a (nI e) K f w15 (nI (p + 1))) := by
  have hn := hx.2.1
  rw [L_X2_read_42, if_neg (nI_ge hp (by omega)), bnd_r (v_X8_at F hx p (by omega)), at_ne he hp, h.2.2.2.2.2.2.2]
  unfold K_X2_read_76
  cases hb with
  | true => rw [if_pos rfl, if_neg (show ¬ (1 : Int32) = 0 from by decide), if_pos rfl]; simp only [lt_v, nI_1]
  | false => rw [if_neg (show ¬ (false = true) from by decide), if_pos rfl, if_neg (show ¬ (false = true) from by decide)]; simp only [lt_v, nI_1]
-- where a thing may begin
theorem bg_minus (h : LsC w a C W d m g false) (hl : W.length < 40) : ∃ w2, P_X2_begin F w a 45 = some (1, w2) ∧ Fr (LawF a) w w2 ∧ LsC w2 a C (126 :: W) d m g false := by
  obtain ⟨w2, a1, a2, a3⟩ := v_X2_hold F h hl 126
  unfold P_X2_begin
  rw [if_pos rfl, bnv_r a1]
  exact ⟨w2, rfl, a2, a3⟩
theorem bg_open (h : LsC w a C W d m g false) (hl : W.length < 40) (hd : d < 4) : ∃ w2, P_X2_begin F w a 40 = some (1, w2) ∧ Fr (LawF a) w w2 ∧ LsC w2 a C (40 :: W) (d + 1) m g false := by
  obtain ⟨w2, a1, a2, a3⟩ := v_X2_hold F (LsC_d h (d + 1)) hl 40
  have e : P_X2_open F w a = some (1, w2) := by
    unfold P_X2_open
    rw [h.2.2.2.2.1, if_pos (show nI d < 4 from nI_lt (a := d) (b := 4) hd (by decide)), lt_v, nI_1, bnv_r a1]
  unfold P_X2_begin
  rw [if_neg (show ¬ (40 : Int32) = 45 from by decide), if_pos rfl, bnd_r e]
  exact ⟨w2, rfl, frS.tr a2 (fun _ h => h) (fun _ h => h), a3⟩
theorem bg_openN (h : LsC w a C W d m g false) (hd : ¬ d < 4) (hd2 : d < 100) : P_X2_begin F w a 40 = some (0, w) := by
  have e : P_X2_open F w a = some (0, w) := by
    unfold P_X2_open
    rw [h.2.2.2.2.1, if_neg (show ¬ nI d < 4 from nI_nlt (a := d) (b := 4) (by omega) (by omega))]
  unfold P_X2_begin
  rw [if_neg (show ¬ (40 : Int32) = 45 from by decide), if_pos rfl, bnd_r e]; rfl
theorem bg_thing (hF : 100 ≤ F) (h : LsC w a C W d m g false) (hl : C.length < 40) {c : Nat} (hc : c < 256) (c1 : ¬ c = 45) (c2 : ¬ c = 40) : ∃ w2, P_X2_begin F w a (nI c) = some (if (48 ≤ c ∧ c ≤ 57) ∨ ¬ amS 0 (nI c) < 0 then 1 else 0, w2) ∧ Fr (LawF a) w w2 ∧ ((48 ≤ c ∧ c ≤ 57) → LsC w2 a (nI (c - 48) :: C) W d m 1 true) ∧ (¬ (48 ≤ c ∧ c ≤ 57) → ¬ amS 0 (nI c) < 0 → LsC w2 a ((1000 + amS 0 (nI c)) :: C) W d m 0 true) := by
  unfold P_X2_begin
  rw [if_neg (show ¬ nI c = 45 from fun q => c1 ((nI_eq (a := c) (b := 45) (by omega) (by decide)).mp q)), if_neg (show ¬ nI c = 40 from fun q => c2 ((nI_eq (a := c) (b := 40) (by omega) (by decide)).mp q)), i2c_all c hc, bnd_r (v_J0_indexOf hF w hc), lt_v]
  have k61 : ∀ (x12 : Int32) (y : Int32) (gg : Nat), (if x12 = 0 then 1000 + amS 0 (nI c) else nI c - 48) = y → (if x12 = 0 then (0 : Int32) else 1) = nI gg → ∃ w2, K_X2_begin_61 F a (nI c) w (amS 0 (nI c)) x12 = some (1, w2) ∧ Fr (LawF a) w w2 ∧ LsC w2 a (y :: C) W d m gg true := by
    intro x12 y gg e1 e2
    obtain ⟨w2, a1, a2, a3⟩ := v_X2_put F h hl y
    unfold K_X2_begin_61
    rw [e1, lt_v, bnv_r a1, e2, lt_v, lt_v, lt_v]
    exact ⟨_, rfl, (a2.tr frS (fun _ h => h) (fun _ h => h)).tr frS (fun _ h => h) (fun _ h => h), LsC_h (LsC_g a3 gg) true 1 rfl⟩
  have lo : nI c < 48 ↔ c < 48 := nI_ltI (a := c) (b := 48) (by omega) (by decide)
  have hi : 57 < nI c ↔ 57 < c := nI_ltI (a := 57) (b := c) (by decide) (by omega)
  by_cases dg : 48 ≤ c ∧ c ≤ 57
  · obtain ⟨w2, a1, a2, a3⟩ := k61 1 (nI (c - 48)) 1 (by rw [if_neg (by decide), show (48 : Int32) = nI 48 from rfl, pk_sub dg.1]) rfl
    have ed : (if nI c < 48 then (0 : Int32) else if 57 < nI c then 0 else 1) = 1 := by
      rw [if_neg (fun q => absurd (lo.mp q) (by omega)), if_neg (fun q => absurd (hi.mp q) (by omega))]
    rw [ed, if_neg (show ¬ (1 : Int32) = 0 from by decide), if_pos (show (48 ≤ c ∧ c ≤ 57) ∨ ¬ amS 0 (nI c) < 0 from .inl dg)]
    exact ⟨w2, a1, a2, fun _ => a3, fun q => absurd dg q⟩
  · have ed : (if nI c < 48 then (0 : Int32) else if 57 < nI c then 0 else 1) = 0 := by
      by_cases q : c < 48
      · rw [if_pos (lo.mpr q)]
      · rw [if_neg (fun z => q (lo.mp z)), if_pos (hi.mpr (by omega))]
    rw [ed, if_pos rfl]
    by_cases q : amS 0 (nI c) < 0
    · rw [if_neg (Int32.not_le.mpr q), if_neg (show ¬ ((48 ≤ c ∧ c ≤ 57) ∨ ¬ amS 0 (nI c) < 0) from fun z => z.elim dg (fun z => z q))]
      exact ⟨w, rfl, Fr.rfl', fun z => absurd z dg, fun _ z => absurd q z⟩
    · obtain ⟨w2, a1, a2, a3⟩ := k61 0 (1000 + amS 0 (nI c)) 0 (if_pos rfl) rfl
      rw [if_pos (Int32.not_lt.mp q), if_pos (show (48 ≤ c ∧ c ≤ 57) ∨ ¬ amS 0 (nI c) < 0 from .inr q)]
      exact ⟨w2, a1, a2, fun z => absurd z dg, fun _ _ => a3⟩
-- where a thing stands already
theorem go_digit (h : LsC w a C W d m g true) {c : Nat} (h1 : 48 ≤ c) (h2 : c ≤ 57) (hl : C.length ≤ 40) (hg : g < 100) : (1 ≤ g ∧ g ≤ 2 → ∀ y C', C = y :: C' → ∃ w2, P_X2_goOn F w a (nI c) = some (1, w2) ∧ Fr (LawF a) w w2 ∧ LsC w2 a ((y * 10 + nI (c - 48)) :: C') W d m (g + 1) true) ∧ (¬ (1 ≤ g ∧ g ≤ 2) → P_X2_goOn F w a (nI c) = some (0, w)) := by
  have e0 : P_X2_goOn F w a (nI c) = bnd (P_X2_lengthen F w a (nI (c - 48))) (fun x36 w35 => gd (isZO x36) (some (x36, w35))) := by
    unfold P_X2_goOn
    rw [if_neg (show ¬ nI c < 48 from nI_nlt (a := c) (b := 48) (by omega) (by omega)), if_neg (show ¬ 57 < nI c from nI_nlt (a := 57) (b := c) (by omega) (by omega)), show nI c - 48 = nI (c - 48) from pk_sub (a := c) (b := 48) h1]
  obtain ⟨q1, q2, q3, q4, q5, q6, q7, q8⟩ := id h
  rw [e0]
  unfold P_X2_lengthen
  rw [q7]
  refine ⟨fun hh y C' eC => ?_, fun hh => ?_⟩
  · subst eC
    have el : (y :: C').length = C'.length + 1 := rfl
    have hl' : C'.length + 1 ≤ 40 := hl
    rw [if_neg (show ¬ nI g < 1 from nI_nlt (a := g) (b := 1) hh.1 (by omega)), if_neg (show ¬ 2 < nI g from nI_nlt (a := 2) (b := g) (by omega) (by omega)), q1, el, if_neg (show ¬ nI (C'.length + 1) < 1 from nI_nlt (a := C'.length + 1) (b := 1) (by omega) (by omega)), if_pos (show nI (C'.length + 1) ≤ 40 from nI_le (a := C'.length + 1) (b := 40) hl (by decide)), nI_pred, gd_t (inB_n (by omega) (by omega)), gd_t (inB_n (by omega) (by omega)), nI_clamp (by omega), q2.1, lt_v, gIa (by omega), q7, nI_1, lt_v]
    refine ⟨_, rfl, (Fr.ofI (a := a + 1)).tr frS (fun b hb => .inr (.inl hb)) (fun _ h => h), by rw [gIk (by decide), gIa (by omega)]; exact q1, ⟨by rw [gIa (by omega), gIs], LsR_eq q2.2 (fun k hk => by rw [gIa (by omega), gIk (by omega)])⟩, by rw [gIk (by decide), gIa (by omega)]; exact q3, LsR_eq q4 (fun k _ => by rw [gIa (by omega), gIa (by omega)]), by rw [gIk (by decide), gIa (by omega)]; exact q5, by rw [gIk (by decide), gIa (by omega)]; exact q6, gIs, by rw [gIk (by decide), gIa (by omega)]; exact q8⟩
  · by_cases z : g < 1
    · rw [if_pos (show nI g < 1 from nI_lt (a := g) (b := 1) z (by decide))]; rfl
    · rw [if_neg (show ¬ nI g < 1 from nI_nlt (a := g) (b := 1) (by omega) (by omega)), if_pos (show 2 < nI g from nI_lt (a := 2) (b := g) (by omega) (by omega))]; rfl
theorem v_operate (hF : 100 ≤ F) {hb : Bool} (h : LsC w a C W d m g hb) (hl : C.length + W.length < 40) (x : Int32) : ∃ w2, P_X2_operate F w a x = some w2 ∧ Fr (LawF a) w w2 ∧ LsC w2 a (relC (rkN x) W C) (x :: relW (rkN x) W) d m g false := by
  obtain ⟨w1, a1, a2, a3⟩ := v_X2_release hF h (rkN x) (rkN_le x) (by omega)
  have := rel_len (rkN x) W C
  obtain ⟨w2, b1, b2, b3⟩ := v_X2_hold F a3 (by omega) x
  unfold P_X2_operate
  rw [bnd_r (v_X2_rank F w x), bnv_r a1, bnv_r b1, lt_v]
  exact ⟨_, rfl, (a2.tr b2 (fun _ h => h) (fun _ h => h)).tr frS (fun _ h => h) (fun _ h => h), LsC_h b3 false 0 rfl⟩
theorem go_op (hF : 100 ≤ F) (h : LsC w a C W d m g true) (hl : C.length + W.length < 40) (x : Int32) (hx : x = 43 ∨ x = 45 ∨ x = 42 ∨ x = 47) : ∃ w2, P_X2_goOn F w a x = some (1, w2) ∧ Fr (LawF a) w w2 ∧ LsC w2 a (relC (rkN x) W C) (x :: relW (rkN x) W) d m 0 false := by
  obtain ⟨w2, a1, a2, a3⟩ := v_operate hF (LsC_g h 0) hl x
  have e139 : K_X2_goOn_139 F a x (sI w a 8 0) = some (1, w2) := by
    unfold K_X2_goOn_139
    rw [bnv_r (show P_X2_operate F (sI w a 8 0) a x = _ from a1)]
  have e : P_X2_goOn F w a x = some (1, w2) := by
    unfold P_X2_goOn K_X2_goOn_21
    rcases hx with rfl | rfl | rfl | rfl
    · rw [if_pos (by decide), lt_v, if_neg (by decide), if_neg (by decide), if_pos rfl]; exact e139
    · rw [if_pos (by decide), lt_v, if_neg (by decide), if_neg (by decide), if_neg (by decide), if_neg (by decide), if_pos rfl]; exact e139
    · rw [if_pos (by decide), lt_v, if_neg (by decide), if_pos rfl]; exact e139
    · rw [if_pos (by decide), lt_v, if_neg (by decide), if_neg (by decide), if_neg (by decide), if_neg (by decide), if_neg (by decide), if_neg (by decide), if_pos rfl]; exact e139
  exact ⟨w2, e, frS.tr a2 (fun _ h => h) (fun _ h => h), a3⟩
theorem go_cmp (hF : 100 ≤ F) (h : LsC w a C W d m g true) (hl : C.length + W.length < 40) (x : Int32) (hx : x = 60 ∨ x = 61 ∨ x = 62) : (bt m d = 0 → ∃ w2, P_X2_goOn F w a x = some (1, w2) ∧ Fr (LawF a) w w2 ∧ LsC w2 a (relC 1 W C) (x :: relW 1 W) d (m ||| bit1 d) 0 false) ∧ (¬ bt m d = 0 → ∃ w2, P_X2_goOn F w a x = some (0, w2)) := by
  have hr : rkN x = 1 := by rcases hx with rfl | rfl | rfl <;> rfl
  have h0 := LsC_g h 0
  have e : P_X2_goOn F w a x = bnd (P_X2_compare F (sI w a 8 0) a x) (fun x30 w29 => gd (isZO x30) (some (x30, w29))) := by
    unfold P_X2_goOn K_X2_goOn_21 K_X2_goOn_133
    rcases hx with rfl | rfl | rfl
    · rw [if_neg (by decide), if_pos (by decide), lt_v]
      repeat rw [if_neg (by decide)]
      rw [if_pos rfl]
    · rw [if_neg (by decide), if_pos (by decide), lt_v]
      repeat rw [if_neg (by decide)]
      rw [if_pos rfl]
    · rw [if_neg (by decide), if_pos (by decide), lt_v]
      repeat rw [if_neg (by decide)]
      rw [if_pos rfl]
  have e7 : gI (sI w a 8 0) a 7 = m := h0.2.2.2.2.2.1
  have e6 : gI (sI w a 8 0) a 6 = nI d := h0.2.2.2.2.1
  rw [e]
  unfold P_X2_compare
  rw [e7, e6]
  refine ⟨fun hb => ?_, fun hb => ?_⟩
  · obtain ⟨w2, a1, a2, a3⟩ := v_operate hF (LsC_m h0 (m ||| bit1 d)) hl x
    rw [hr] at a3
    rw [if_pos (show ishrI m (nI d) &&& 1 = 0 from hb), lt_v, bnv_r (show P_X2_operate F (sI (sI w a 8 0) a 7 (m ||| ishlI 1 (nI d))) a x = _ from a1)]
    exact ⟨w2, rfl, (frS.tr frS (fun _ h => h) (fun _ h => h)).tr a2 (fun _ h => h) (fun _ h => h), a3⟩
  · rw [if_neg (show ¬ ishrI m (nI d) &&& 1 = 0 from hb)]
    exact ⟨_, rfl⟩
end LA
