-- ===== a minute, as the bench has it =====
def mixF (g f : Nat → Int32) (k : Nat) : Nat → Int32 := fun j => if j < k then g j else f j
theorem mixF_0 (g f : Nat → Int32) : mixF g f 0 = f := by funext j; unfold mixF; rw [if_neg (Nat.not_lt_zero j)]
theorem mixF_at (g f : Nat → Int32) (k : Nat) : mixF g f k k = f k := by unfold mixF; rw [if_neg (Nat.lt_irrefl k)]
theorem upd_mix (g f : Nat → Int32) (k : Nat) : upd (mixF g f k) k (g k) = mixF g f (k + 1) := by
  funext j
  unfold upd mixF
  by_cases h : j = k
  · subst h; rw [if_pos rfl, if_pos (Nat.lt_succ_self _)]
  · rw [if_neg h]
    by_cases h2 : j < k
    · rw [if_pos h2, if_pos (by omega)]
    · rw [if_neg h2, if_neg (by omega)]
theorem mix_skip {g f : Nat → Int32} {k : Nat} (h : g k = f k) : mixF g f (k + 1) = mixF g f k := by
  funext j
  unfold mixF
  by_cases e : j = k
  · subst e; rw [if_pos (Nat.lt_succ_self _), if_neg (Nat.lt_irrefl _)]; exact h
  · by_cases h2 : j < k
    · rw [if_pos h2, if_pos (by omega)]
    · rw [if_neg h2, if_neg (by omega)]
def accP (pa : Int32) (g ro : Nat → Int32) : Nat → Int32
  | 0 => pa
  | k + 1 => if ro k = 0 then accP pa g ro k else accP pa g ro k + g k
def mnIs (L : Int32) : Int32 := if L ≤ 0 then 0 else 1
def mnSi (L si : Int32) : Int32 := if L ≤ 0 then si + 1 else 0
def mnRu (L ru : Int32) : Int32 := if L ≤ 0 then ru else ru + 1
def mnSt (L ru st : Int32) : Int32 := if L ≤ 0 then st else if iremI (ru + 1) 10 = 0 then (if st ≤ 0 then st else st - 1) else st
def mnSp (L si mo sp : Int32) : Int32 := if L ≤ 0 then (if si + 1 = mo + 1 then sp + 1 else sp) else sp
def mnTi (ti ro : Nat → Int32) (k : Nat) : Int32 := if ro k = 0 then maxI 0 (ti k - 1) else minI 99 (ti k + 2)
def mnDb (f1 g1 : Nat → Int32) (si al : Int32) (db : Nat → Int32) (k : Nat) : Int32 := if f1 k ≤ si then 1 else if g1 k ≤ 0 then db k else if al - (if db k = 0 then 0 else 1) < g1 k then db k else 1
theorem mnIs_zo (L : Int32) : isZO (mnIs L) = true := by unfold mnIs; split <;> decide
abbrev rmY_X12_minute : Room := { frames := 2, cells := 1, slots := 8, locals := 50 }
set_option maxHeartbeats 8000000 in
theorem cY_X12_minute {S : Sx} {K : Kx} {E : Ex} (hE : Stb E) (hF : ∀ (A : Nat → Prop) (s : State), E A s → KF S K A s s.heap) (n p : Nat) (a : Nat → Nat) (ti ro db : Nat → Int32) (st no ru si sp pa : Int32) (b ra rb : Nat → Nat) (w f mo r : Int32) (f0 g0 f1 g1 : Nat → Int32) (hn : n ≤ 8) (hp : p ≤ 8) (hr : ∀ k, ro k = 0 ∨ ro k = 1) (hd : ∀ k, db k = 0 ∨ db k = 1) : CY S K E yX12_minute cX12_minute 9 (some .boolean) rmY_X12_minute [.ref (b 0), .ref (a 0)] ([stC S n p a ti ro db st no ru si sp pa, bnC S K n p b ra rb w f mo r, rwC S n ra f0 g0, rwC S p rb f1 g1]) (QYi S ([stC S n p a ti ro db st no ru si sp pa, bnC S K n p b ra rb w f mo r, rwC S n ra f0 g0, rwC S p rb f1 g1]) (mnIs (loudI r w f f0 ti ro n st no)) (fun _ => [stC S n p a (mixF (mnTi ti ro) ti n) ro (mixF (mnDb f1 g1 (mnSi (loudI r w f f0 ti ro n st no) si) (accL (fun _ => 1) db p) db) db p) (mnSt (loudI r w f f0 ti ro n st no) ru st) (no + 1) (mnRu (loudI r w f f0 ti ro n st no) ru) (mnSi (loudI r w f f0 ti ro n st no) si) (mnSp (loudI r w f f0 ti ro n st no) si mo sp) (accP pa g0 ro n), bnC S K n p b ra rb w f mo r, rwC S n ra f0 g0, rwC S p rb f1 g1])) 1 8 := by
  refine y_meti (own := RX12) (by decide +kernel) rfl (Nat.le_of_ble_eq_true rfl) hE (fun X A hX hE2 hI hR => ?_)
  show Y X S K A 0 0 [stC S n p a ti ro db st no ru si sp pa, bnC S K n p b ra rb w f mo r, rwC S n ra f0 g0, rwC S p rb f1 g1] 0 [(0, .ref (b 0)), (1, .ref (a 0))] []
  have k96 : Y X S K A 0 0 [stC S n p a ti ro db (mnSt (loudI r w f f0 ti ro n st no) ru st) no (mnRu (loudI r w f f0 ti ro n st no) ru) (mnSi (loudI r w f f0 ti ro n st no) si) (mnSp (loudI r w f f0 ti ro n st no) si mo sp) pa, bnC S K n p b ra rb w f mo r, rwC S n ra f0 g0, rwC S p rb f1 g1] 96 [(2, .int (mnIs (loudI r w f f0 ti ro n st no))), (1, .ref (a 0)), (0, .ref (b 0))] [] := by
    have loopA : ∀ (m k : Nat), k + m = n → Y X S K A 0 0 [stC S n p a (mixF (mnTi ti ro) ti k) ro db (mnSt (loudI r w f f0 ti ro n st no) ru st) no (mnRu (loudI r w f f0 ti ro n st no) ru) (mnSi (loudI r w f f0 ti ro n st no) si) (mnSp (loudI r w f f0 ti ro n st no) si mo sp) (accP pa g0 ro k), bnC S K n p b ra rb w f mo r, rwC S n ra f0 g0, rwC S p rb f1 g1] 98 [(3, .int (nI k)), (2, .int (mnIs (loudI r w f f0 ti ro n st no))), (1, .ref (a 0)), (0, .ref (b 0))] [] := by
      intro m
      induction m with
      | zero =>
        intro k hk
        obtain hk : k = n := by omega
        rw [hk]
        refine Y_iload_n hX dX12_minute_98 0 rfl ?_
        refine Y_aload_n hX dX12_minute_99 3 rfl ?_
        refine Y_get 1 0 hX fk_X12_73 rfl rfl rfl dX12_minute_100 ?_
        refine Y_alen (t0 := 5) (v := nI n) 1 1 hX rfl rfl rfl rfl dX12_minute_103 ?_
        refine Y_icmp_ge (tgt := 182) hX dX12_minute_104 (by decide) (fun _ => ?_) (fun z => absurd (nI_le (Nat.le_refl _) (by omega)) z)
        refine Y_aload_n hX dX12_minute_182 2 rfl ?_
        refine Y_dup hX dX12_minute_183 rfl ?_
        refine Y_get 0 0 hX fk_X12_55 rfl rfl rfl dX12_minute_184 ?_
        refine Y_iconst (v := 1) hX dX12_minute_187 (by decide) ?_
        refine Y_iadd hX dX12_minute_188 ?_
        refine Y_put 0 0 hX fw_X12_55 rfl rfl ⟨rfl, rfl, Nat.le_of_ble_eq_true rfl⟩ dX12_minute_189 ?_
        show Y X S K A 0 0 [[(a 0, .inr (13, [.ref (a 1), .ref (a 2), .int (mnSt (loudI r w f f0 ti ro n st no) ru st), .int (no + 1), .int (mnRu (loudI r w f f0 ti ro n st no) ru), .int (mnSi (loudI r w f f0 ti ro n st no) si), .int (mnSp (loudI r w f f0 ti ro n st no) si mo sp), .int (accP pa g0 ro n), .ref (a 3)])), (a 1, .inl (cAr S 0, n, .inl (mixF (mnTi ti ro) ti n))), (a 2, .inl (cAr S 2, n, .inl ro)), (a 3, .inl (cAr S 2, p, .inl db))], bnC S K n p b ra rb w f mo r, rwC S n ra f0 g0, rwC S p rb f1 g1] 192 [(3, .int (nI n)), (2, .int (mnIs (loudI r w f f0 ti ro n st no))), (1, .ref (a 0)), (0, .ref (b 0))] []
        refine Y_aload_n hX dX12_minute_192 2 rfl ?_
        refine Y_get 0 0 hX fk_X12_116 rfl rfl rfl dX12_minute_193 ?_
        refine Y_clone (t0 := 2) 0 3 hX ck_X12_119 rfl rfl rfl ⟨rfl, rfl⟩ (fun i v hv => fit_z hd hv) ⟨Nat.le_of_ble_eq_true rfl, Nat.le_of_ble_eq_true rfl⟩ ⟨Nat.le_of_ble_eq_true rfl, (by show _ ≤ 8; omega)⟩ dX12_minute_196 (fun q => ?_)
        show Y X S K A 1 (0 + p) [[(a 0, .inr (13, [.ref (a 1), .ref (a 2), .int (mnSt (loudI r w f f0 ti ro n st no) ru st), .int (no + 1), .int (mnRu (loudI r w f f0 ti ro n st no) ru), .int (mnSi (loudI r w f f0 ti ro n st no) si), .int (mnSp (loudI r w f f0 ti ro n st no) si mo sp), .int (accP pa g0 ro n), .ref (a 3)])), (a 1, .inl (cAr S 0, n, .inl (mixF (mnTi ti ro) ti n))), (a 2, .inl (cAr S 2, n, .inl ro)), (a 3, .inl (cAr S 2, p, .inl db))], bnC S K n p b ra rb w f mo r, rwC S n ra f0 g0, rwC S p rb f1 g1, [(q, .inl (cAr S 2, p, .inl db))]] 199 [(3, .int (nI n)), (2, .int (mnIs (loudI r w f f0 ti ro n st no))), (1, .ref (a 0)), (0, .ref (b 0))] [.ref q]
        refine Y_castA (t0 := 2) 4 0 hX cl_X12_120 rfl rfl rfl ⟨rfl, rfl⟩ dX12_minute_199 ?_
        refine Y_astore_n (lv' := [(3, .ref q), (2, .int (mnIs (loudI r w f f0 ti ro n st no))), (1, .ref (a 0)), (0, .ref (b 0))]) hX dX12_minute_202 (by decide) rfl ?_
        refine Y_iconst (v := 0) hX dX12_minute_203 (by decide) ?_
        refine Y_istore (lv' := [(4, .int 0), (3, .ref q), (2, .int (mnIs (loudI r w f f0 ti ro n st no))), (1, .ref (a 0)), (0, .ref (b 0))]) hX dX12_minute_204 (by decide) rfl ?_
        refine Y_aload_n hX dX12_minute_206 1 rfl ?_
        refine Y_astore (lv' := [(5, .ref q), (4, .int 0), (3, .ref q), (2, .int (mnIs (loudI r w f f0 ti ro n st no))), (1, .ref (a 0)), (0, .ref (b 0))]) hX dX12_minute_207 (by decide) rfl ?_
        refine Y_aload hX dX12_minute_209 0 rfl ?_
        refine Y_alen (t0 := 2) (v := nI p) 4 0 hX rfl rfl rfl rfl dX12_minute_211 ?_
        refine Y_istore (lv' := [(6, .int (nI p)), (5, .ref q), (4, .int 0), (3, .ref q), (2, .int (mnIs (loudI r w f f0 ti ro n st no))), (1, .ref (a 0)), (0, .ref (b 0))]) hX dX12_minute_212 (by decide) rfl ?_
        refine Y_iconst (v := 0) hX dX12_minute_214 (by decide) ?_
        refine Y_istore (lv' := [(7, .int 0), (6, .int (nI p)), (5, .ref q), (4, .int 0), (3, .ref q), (2, .int (mnIs (loudI r w f f0 ti ro n st no))), (1, .ref (a 0)), (0, .ref (b 0))]) hX dX12_minute_215 (by decide) rfl ?_
        have loopC : ∀ (m k : Nat), k + m = p → Y X S K A 1 (0 + p) [stC S n p a (mixF (mnTi ti ro) ti n) ro (mixF (mnDb f1 g1 (mnSi (loudI r w f f0 ti ro n st no) si) (accL (fun _ => 1) db p) db) db k) (mnSt (loudI r w f f0 ti ro n st no) ru st) (no + 1) (mnRu (loudI r w f f0 ti ro n st no) ru) (mnSi (loudI r w f f0 ti ro n st no) si) (mnSp (loudI r w f f0 ti ro n st no) si mo sp) (accP pa g0 ro n), bnC S K n p b ra rb w f mo r, rwC S n ra f0 g0, rwC S p rb f1 g1, [(q, .inl (cAr S 2, p, .inl db))]] 248 [(5, .int (nI k)), (4, .int (accL (fun _ => 1) db p)), (3, .ref q), (2, .int (mnIs (loudI r w f f0 ti ro n st no))), (1, .ref (a 0)), (0, .ref (b 0))] [] := by
          intro m
          induction m with
          | zero =>
            intro k hk
            obtain hk : k = p := by omega
            rw [hk]
            refine Y_iload hX dX12_minute_248 0 rfl ?_
            refine Y_aload_n hX dX12_minute_250 5 rfl ?_
            refine Y_get 1 0 hX fk_X12_124 rfl rfl rfl dX12_minute_251 ?_
            refine Y_alen (t0 := 5) (v := nI p) 1 2 hX rfl rfl rfl rfl dX12_minute_254 ?_
            refine Y_icmp_ge (tgt := 331) hX dX12_minute_255 (by decide) (fun _ => ?_) (fun z => absurd (nI_le (Nat.le_refl _) (by omega)) z)
            refine Y_iload_n hX dX12_minute_331 3 rfl ?_
            refine Y_pick [0, 1, 2, 3] (by decide) rfl ?_
            refine Y_wd (kc' := 1) (kn' := 8) (Nat.le_of_ble_eq_true rfl) (by omega) ?_
            exact hR (fun _ => 0) _ _ (nar_z (mnIs_zo _)) dX12_minute_332
          | succ m ih =>
            intro k hk
            refine Y_iload hX dX12_minute_248 0 rfl ?_
            refine Y_aload_n hX dX12_minute_250 5 rfl ?_
            refine Y_get 1 0 hX fk_X12_124 rfl rfl rfl dX12_minute_251 ?_
            refine Y_alen (t0 := 5) (v := nI p) 1 2 hX rfl rfl rfl rfl dX12_minute_254 ?_
            refine Y_icmp_ge (tgt := 331) hX dX12_minute_255 (by decide) (fun z => absurd z (nI_ge (show k < p by omega) (by omega))) (fun _ => ?_)
            refine Y_iload hX dX12_minute_258 1 rfl ?_
            refine Y_aload_n hX dX12_minute_260 2 rfl ?_
            refine Y_iload hX dX12_minute_261 0 rfl ?_
            refine Y_zald (v := db k) 4 0 hX rfl rfl (vp_in_nI (by omega) (by omega)) (at8 (by omega)) dX12_minute_263 ?_
            refine Y_if_eq (tgt := 271) hX dX12_minute_264 (by decide) (fun h264 => ?_) (fun h264 => ?_)
            · refine Y_iconst (v := 0) hX dX12_minute_271 (by decide) ?_
              refine Y_isub hX dX12_minute_272 ?_
              refine Y_istore (lv' := [(6, .int ((accL (fun _ => 1) db p) - 0)), (5, .int (nI k)), (4, .int (accL (fun _ => 1) db p)), (3, .ref q), (2, .int (mnIs (loudI r w f f0 ti ro n st no))), (1, .ref (a 0)), (0, .ref (b 0))]) hX dX12_minute_273 (by decide) rfl ?_
              refine Y_aload_n hX dX12_minute_275 5 rfl ?_
              refine Y_get 0 0 hX fk_X12_93 rfl rfl rfl dX12_minute_276 ?_
              refine Y_aload_n hX dX12_minute_279 6 rfl ?_
              refine Y_get 1 0 hX fk_X12_124 rfl rfl rfl dX12_minute_280 ?_
              refine Y_iload hX dX12_minute_283 1 rfl ?_
              refine Y_aaldI (v := some (rb k)) 1 2 hX rfl rfl (vp_in_nI (by omega) (by omega)) (outC_at (by omega) hp) dX12_minute_285 ?_
              show Y X S K A 1 (0 + p) [stC S n p a (mixF (mnTi ti ro) ti n) ro (mixF (mnDb f1 g1 (mnSi (loudI r w f f0 ti ro n st no) si) (accL (fun _ => 1) db p) db) db k) (mnSt (loudI r w f f0 ti ro n st no) ru st) (no + 1) (mnRu (loudI r w f f0 ti ro n st no) ru) (mnSi (loudI r w f f0 ti ro n st no) si) (mnSp (loudI r w f f0 ti ro n st no) si mo sp) (accP pa g0 ro n), bnC S K n p b ra rb w f mo r, rwC S n ra f0 g0, rwC S p rb f1 g1, [(q, .inl (cAr S 2, p, .inl db))]] 286 [(6, .int ((accL (fun _ => 1) db p) - 0)), (5, .int (nI k)), (4, .int (accL (fun _ => 1) db p)), (3, .ref q), (2, .int (mnIs (loudI r w f f0 ti ro n st no))), (1, .ref (a 0)), (0, .ref (b 0))] [.ref (rb k), .int (mnSi (loudI r w f f0 ti ro n st no) si)]
              refine Y_iconst (v := 0) hX dX12_minute_286 (by decide) ?_
              refine Y_iald (v := f1 k) 3 k hX rfl (rwC_at (by omega)) (inB_in (by decide)) rfl dX12_minute_287 ?_
              refine Y_icmp_ge (tgt := 317) hX dX12_minute_288 (by decide) (fun h288 => ?_) (fun h288 => ?_)
              · refine Y_aload_n hX dX12_minute_317 5 rfl ?_
                refine Y_get 0 0 hX fk_X12_116 rfl rfl rfl dX12_minute_318 ?_
                refine Y_iload hX dX12_minute_321 1 rfl ?_
                refine Y_iconst (v := 1) hX dX12_minute_323 (by decide) ?_
                refine Y_zast 0 3 hX rfl rfl (vp_in_nI (by omega) (by omega)) dX12_minute_324 ?_
                show Y X S K A 1 (0 + p) [[(a 0, .inr (13, [.ref (a 1), .ref (a 2), .int (mnSt (loudI r w f f0 ti ro n st no) ru st), .int (no + 1), .int (mnRu (loudI r w f f0 ti ro n st no) ru), .int (mnSi (loudI r w f f0 ti ro n st no) si), .int (mnSp (loudI r w f f0 ti ro n st no) si mo sp), .int (accP pa g0 ro n), .ref (a 3)])), (a 1, .inl (cAr S 0, n, .inl (mixF (mnTi ti ro) ti n))), (a 2, .inl (cAr S 2, n, .inl ro)), (a 3, .inl (cAr S 2, p, .inl (upd (mixF (mnDb f1 g1 (mnSi (loudI r w f f0 ti ro n st no) si) (accL (fun _ => 1) db p) db) db k) (nI k).toNatClampNeg (vp_nar .boolean 1))))], bnC S K n p b ra rb w f mo r, rwC S n ra f0 g0, rwC S p rb f1 g1, [(q, .inl (cAr S 2, p, .inl db))]] 325 [(6, .int ((accL (fun _ => 1) db p) - 0)), (5, .int (nI k)), (4, .int (accL (fun _ => 1) db p)), (3, .ref q), (2, .int (mnIs (loudI r w f f0 ti ro n st no))), (1, .ref (a 0)), (0, .ref (b 0))] []
                rw [show (upd (mixF (mnDb f1 g1 (mnSi (loudI r w f f0 ti ro n st no) si) (accL (fun _ => 1) db p) db) db k) (nI k).toNatClampNeg (vp_nar .boolean 1)) = mixF (mnDb f1 g1 (mnSi (loudI r w f f0 ti ro n st no) si) (accL (fun _ => 1) db p) db) db (k + 1) from by rw [nI_clamp (by omega), show vp_nar .boolean 1 = (mnDb f1 g1 (mnSi (loudI r w f f0 ti ro n st no) si) (accL (fun _ => 1) db p) db) k from ((if_pos h288).symm : (1 : Int32) = _)]; exact upd_mix _ _ k]
                refine Y_iinc (v := nI (k + 1)) (lv' := [(5, .int (nI (k + 1))), (6, .int ((accL (fun _ => 1) db p) - 0)), (4, .int (accL (fun _ => 1) db p)), (3, .ref q), (2, .int (mnIs (loudI r w f f0 ti ro n st no))), (1, .ref (a 0)), (0, .ref (b 0))]) hX dX12_minute_325 (j := 1) rfl (by decide) (iinc1 k) rfl ?_
                refine Y_goto (tgt := 248) hX dX12_minute_328 (by decide) ?_
                have z := ih (k + 1) (by omega)
                refine Y_sub (lv' := [(5, .int (nI (k + 1))), (4, .int (accL (fun _ => 1) db p)), (3, .ref q), (2, .int (mnIs (loudI r w f f0 ti ro n st no))), (1, .ref (a 0)), (0, .ref (b 0))]) [0, 2, 3, 4, 5, 6] rfl ?_
                exact z
              · refine Y_aload_n hX dX12_minute_291 6 rfl ?_
                refine Y_get 1 0 hX fk_X12_124 rfl rfl rfl dX12_minute_292 ?_
                refine Y_iload hX dX12_minute_295 1 rfl ?_
                refine Y_aaldI (v := some (rb k)) 1 2 hX rfl rfl (vp_in_nI (by omega) (by omega)) (outC_at (by omega) hp) dX12_minute_297 ?_
                show Y X S K A 1 (0 + p) [stC S n p a (mixF (mnTi ti ro) ti n) ro (mixF (mnDb f1 g1 (mnSi (loudI r w f f0 ti ro n st no) si) (accL (fun _ => 1) db p) db) db k) (mnSt (loudI r w f f0 ti ro n st no) ru st) (no + 1) (mnRu (loudI r w f f0 ti ro n st no) ru) (mnSi (loudI r w f f0 ti ro n st no) si) (mnSp (loudI r w f f0 ti ro n st no) si mo sp) (accP pa g0 ro n), bnC S K n p b ra rb w f mo r, rwC S n ra f0 g0, rwC S p rb f1 g1, [(q, .inl (cAr S 2, p, .inl db))]] 298 [(6, .int ((accL (fun _ => 1) db p) - 0)), (5, .int (nI k)), (4, .int (accL (fun _ => 1) db p)), (3, .ref q), (2, .int (mnIs (loudI r w f f0 ti ro n st no))), (1, .ref (a 0)), (0, .ref (b 0))] [.ref (rb k)]
                refine Y_iconst (v := 1) hX dX12_minute_298 (by decide) ?_
                refine Y_iald (v := g1 k) 3 k hX rfl (rwC_at (by omega)) (inB_in (by decide)) rfl dX12_minute_299 ?_
                refine Y_if_le (tgt := 325) hX dX12_minute_300 (by decide) (fun h300 => ?_) (fun h300 => ?_)
                · refine Y_iinc (v := nI (k + 1)) (lv' := [(5, .int (nI (k + 1))), (6, .int ((accL (fun _ => 1) db p) - 0)), (4, .int (accL (fun _ => 1) db p)), (3, .ref q), (2, .int (mnIs (loudI r w f f0 ti ro n st no))), (1, .ref (a 0)), (0, .ref (b 0))]) hX dX12_minute_325 (j := 1) rfl (by decide) (iinc1 k) rfl ?_
                  refine Y_goto (tgt := 248) hX dX12_minute_328 (by decide) ?_
                  have z := ih (k + 1) (by omega)
                  rw [mix_skip (g := mnDb f1 g1 (mnSi (loudI r w f f0 ti ro n st no) si) (accL (fun _ => 1) db p) db) (f := db) (k := k) (by show mnDb _ _ _ _ _ _ = _; unfold mnDb; rw [if_neg h288, if_pos h300])] at z
                  refine Y_sub (lv' := [(5, .int (nI (k + 1))), (4, .int (accL (fun _ => 1) db p)), (3, .ref q), (2, .int (mnIs (loudI r w f f0 ti ro n st no))), (1, .ref (a 0)), (0, .ref (b 0))]) [0, 2, 3, 4, 5, 6] rfl ?_
                  exact z
                · refine Y_iload hX dX12_minute_303 0 rfl ?_
                  refine Y_aload_n hX dX12_minute_305 6 rfl ?_
                  refine Y_get 1 0 hX fk_X12_124 rfl rfl rfl dX12_minute_306 ?_
                  refine Y_iload hX dX12_minute_309 1 rfl ?_
                  refine Y_aaldI (v := some (rb k)) 1 2 hX rfl rfl (vp_in_nI (by omega) (by omega)) (outC_at (by omega) hp) dX12_minute_311 ?_
                  show Y X S K A 1 (0 + p) [stC S n p a (mixF (mnTi ti ro) ti n) ro (mixF (mnDb f1 g1 (mnSi (loudI r w f f0 ti ro n st no) si) (accL (fun _ => 1) db p) db) db k) (mnSt (loudI r w f f0 ti ro n st no) ru st) (no + 1) (mnRu (loudI r w f f0 ti ro n st no) ru) (mnSi (loudI r w f f0 ti ro n st no) si) (mnSp (loudI r w f f0 ti ro n st no) si mo sp) (accP pa g0 ro n), bnC S K n p b ra rb w f mo r, rwC S n ra f0 g0, rwC S p rb f1 g1, [(q, .inl (cAr S 2, p, .inl db))]] 312 [(6, .int ((accL (fun _ => 1) db p) - 0)), (5, .int (nI k)), (4, .int (accL (fun _ => 1) db p)), (3, .ref q), (2, .int (mnIs (loudI r w f f0 ti ro n st no))), (1, .ref (a 0)), (0, .ref (b 0))] [.ref (rb k), .int ((accL (fun _ => 1) db p) - 0)]
                  refine Y_iconst (v := 1) hX dX12_minute_312 (by decide) ?_
                  refine Y_iald (v := g1 k) 3 k hX rfl (rwC_at (by omega)) (inB_in (by decide)) rfl dX12_minute_313 ?_
                  refine Y_icmp_lt (tgt := 325) hX dX12_minute_314 (by decide) (fun h314 => ?_) (fun h314 => ?_)
                  · refine Y_iinc (v := nI (k + 1)) (lv' := [(5, .int (nI (k + 1))), (6, .int ((accL (fun _ => 1) db p) - 0)), (4, .int (accL (fun _ => 1) db p)), (3, .ref q), (2, .int (mnIs (loudI r w f f0 ti ro n st no))), (1, .ref (a 0)), (0, .ref (b 0))]) hX dX12_minute_325 (j := 1) rfl (by decide) (iinc1 k) rfl ?_
                    refine Y_goto (tgt := 248) hX dX12_minute_328 (by decide) ?_
                    have z := ih (k + 1) (by omega)
                    rw [mix_skip (g := mnDb f1 g1 (mnSi (loudI r w f f0 ti ro n st no) si) (accL (fun _ => 1) db p) db) (f := db) (k := k) (by show mnDb _ _ _ _ _ _ = _; unfold mnDb; rw [if_neg h288, if_neg h300, if_pos h264, if_pos h314])] at z
                    refine Y_sub (lv' := [(5, .int (nI (k + 1))), (4, .int (accL (fun _ => 1) db p)), (3, .ref q), (2, .int (mnIs (loudI r w f f0 ti ro n st no))), (1, .ref (a 0)), (0, .ref (b 0))]) [0, 2, 3, 4, 5, 6] rfl ?_
                    exact z
                  · refine Y_aload_n hX dX12_minute_317 5 rfl ?_
                    refine Y_get 0 0 hX fk_X12_116 rfl rfl rfl dX12_minute_318 ?_
                    refine Y_iload hX dX12_minute_321 1 rfl ?_
                    refine Y_iconst (v := 1) hX dX12_minute_323 (by decide) ?_
                    refine Y_zast 0 3 hX rfl rfl (vp_in_nI (by omega) (by omega)) dX12_minute_324 ?_
                    show Y X S K A 1 (0 + p) [[(a 0, .inr (13, [.ref (a 1), .ref (a 2), .int (mnSt (loudI r w f f0 ti ro n st no) ru st), .int (no + 1), .int (mnRu (loudI r w f f0 ti ro n st no) ru), .int (mnSi (loudI r w f f0 ti ro n st no) si), .int (mnSp (loudI r w f f0 ti ro n st no) si mo sp), .int (accP pa g0 ro n), .ref (a 3)])), (a 1, .inl (cAr S 0, n, .inl (mixF (mnTi ti ro) ti n))), (a 2, .inl (cAr S 2, n, .inl ro)), (a 3, .inl (cAr S 2, p, .inl (upd (mixF (mnDb f1 g1 (mnSi (loudI r w f f0 ti ro n st no) si) (accL (fun _ => 1) db p) db) db k) (nI k).toNatClampNeg (vp_nar .boolean 1))))], bnC S K n p b ra rb w f mo r, rwC S n ra f0 g0, rwC S p rb f1 g1, [(q, .inl (cAr S 2, p, .inl db))]] 325 [(6, .int ((accL (fun _ => 1) db p) - 0)), (5, .int (nI k)), (4, .int (accL (fun _ => 1) db p)), (3, .ref q), (2, .int (mnIs (loudI r w f f0 ti ro n st no))), (1, .ref (a 0)), (0, .ref (b 0))] []
                    rw [show (upd (mixF (mnDb f1 g1 (mnSi (loudI r w f f0 ti ro n st no) si) (accL (fun _ => 1) db p) db) db k) (nI k).toNatClampNeg (vp_nar .boolean 1)) = mixF (mnDb f1 g1 (mnSi (loudI r w f f0 ti ro n st no) si) (accL (fun _ => 1) db p) db) db (k + 1) from by rw [nI_clamp (by omega), show vp_nar .boolean 1 = (mnDb f1 g1 (mnSi (loudI r w f f0 ti ro n st no) si) (accL (fun _ => 1) db p) db) k from (by show (1 : Int32) = mnDb _ _ _ _ _ _; unfold mnDb; rw [if_neg h288, if_neg h300, if_pos h264, if_neg h314])]; exact upd_mix _ _ k]
                    refine Y_iinc (v := nI (k + 1)) (lv' := [(5, .int (nI (k + 1))), (6, .int ((accL (fun _ => 1) db p) - 0)), (4, .int (accL (fun _ => 1) db p)), (3, .ref q), (2, .int (mnIs (loudI r w f f0 ti ro n st no))), (1, .ref (a 0)), (0, .ref (b 0))]) hX dX12_minute_325 (j := 1) rfl (by decide) (iinc1 k) rfl ?_
                    refine Y_goto (tgt := 248) hX dX12_minute_328 (by decide) ?_
                    have z := ih (k + 1) (by omega)
                    refine Y_sub (lv' := [(5, .int (nI (k + 1))), (4, .int (accL (fun _ => 1) db p)), (3, .ref q), (2, .int (mnIs (loudI r w f f0 ti ro n st no))), (1, .ref (a 0)), (0, .ref (b 0))]) [0, 2, 3, 4, 5, 6] rfl ?_
                    exact z
            · refine Y_iconst (v := 1) hX dX12_minute_267 (by decide) ?_
              refine Y_goto (tgt := 272) hX dX12_minute_268 (by decide) ?_
              refine Y_isub hX dX12_minute_272 ?_
              refine Y_istore (lv' := [(6, .int ((accL (fun _ => 1) db p) - 1)), (5, .int (nI k)), (4, .int (accL (fun _ => 1) db p)), (3, .ref q), (2, .int (mnIs (loudI r w f f0 ti ro n st no))), (1, .ref (a 0)), (0, .ref (b 0))]) hX dX12_minute_273 (by decide) rfl ?_
              refine Y_aload_n hX dX12_minute_275 5 rfl ?_
              refine Y_get 0 0 hX fk_X12_93 rfl rfl rfl dX12_minute_276 ?_
              refine Y_aload_n hX dX12_minute_279 6 rfl ?_
              refine Y_get 1 0 hX fk_X12_124 rfl rfl rfl dX12_minute_280 ?_
              refine Y_iload hX dX12_minute_283 1 rfl ?_
              refine Y_aaldI (v := some (rb k)) 1 2 hX rfl rfl (vp_in_nI (by omega) (by omega)) (outC_at (by omega) hp) dX12_minute_285 ?_
              show Y X S K A 1 (0 + p) [stC S n p a (mixF (mnTi ti ro) ti n) ro (mixF (mnDb f1 g1 (mnSi (loudI r w f f0 ti ro n st no) si) (accL (fun _ => 1) db p) db) db k) (mnSt (loudI r w f f0 ti ro n st no) ru st) (no + 1) (mnRu (loudI r w f f0 ti ro n st no) ru) (mnSi (loudI r w f f0 ti ro n st no) si) (mnSp (loudI r w f f0 ti ro n st no) si mo sp) (accP pa g0 ro n), bnC S K n p b ra rb w f mo r, rwC S n ra f0 g0, rwC S p rb f1 g1, [(q, .inl (cAr S 2, p, .inl db))]] 286 [(6, .int ((accL (fun _ => 1) db p) - 1)), (5, .int (nI k)), (4, .int (accL (fun _ => 1) db p)), (3, .ref q), (2, .int (mnIs (loudI r w f f0 ti ro n st no))), (1, .ref (a 0)), (0, .ref (b 0))] [.ref (rb k), .int (mnSi (loudI r w f f0 ti ro n st no) si)]
              refine Y_iconst (v := 0) hX dX12_minute_286 (by decide) ?_
              refine Y_iald (v := f1 k) 3 k hX rfl (rwC_at (by omega)) (inB_in (by decide)) rfl dX12_minute_287 ?_
              refine Y_icmp_ge (tgt := 317) hX dX12_minute_288 (by decide) (fun h288 => ?_) (fun h288 => ?_)
              · refine Y_aload_n hX dX12_minute_317 5 rfl ?_
                refine Y_get 0 0 hX fk_X12_116 rfl rfl rfl dX12_minute_318 ?_
                refine Y_iload hX dX12_minute_321 1 rfl ?_
                refine Y_iconst (v := 1) hX dX12_minute_323 (by decide) ?_
                refine Y_zast 0 3 hX rfl rfl (vp_in_nI (by omega) (by omega)) dX12_minute_324 ?_
                show Y X S K A 1 (0 + p) [[(a 0, .inr (13, [.ref (a 1), .ref (a 2), .int (mnSt (loudI r w f f0 ti ro n st no) ru st), .int (no + 1), .int (mnRu (loudI r w f f0 ti ro n st no) ru), .int (mnSi (loudI r w f f0 ti ro n st no) si), .int (mnSp (loudI r w f f0 ti ro n st no) si mo sp), .int (accP pa g0 ro n), .ref (a 3)])), (a 1, .inl (cAr S 0, n, .inl (mixF (mnTi ti ro) ti n))), (a 2, .inl (cAr S 2, n, .inl ro)), (a 3, .inl (cAr S 2, p, .inl (upd (mixF (mnDb f1 g1 (mnSi (loudI r w f f0 ti ro n st no) si) (accL (fun _ => 1) db p) db) db k) (nI k).toNatClampNeg (vp_nar .boolean 1))))], bnC S K n p b ra rb w f mo r, rwC S n ra f0 g0, rwC S p rb f1 g1, [(q, .inl (cAr S 2, p, .inl db))]] 325 [(6, .int ((accL (fun _ => 1) db p) - 1)), (5, .int (nI k)), (4, .int (accL (fun _ => 1) db p)), (3, .ref q), (2, .int (mnIs (loudI r w f f0 ti ro n st no))), (1, .ref (a 0)), (0, .ref (b 0))] []
                rw [show (upd (mixF (mnDb f1 g1 (mnSi (loudI r w f f0 ti ro n st no) si) (accL (fun _ => 1) db p) db) db k) (nI k).toNatClampNeg (vp_nar .boolean 1)) = mixF (mnDb f1 g1 (mnSi (loudI r w f f0 ti ro n st no) si) (accL (fun _ => 1) db p) db) db (k + 1) from by rw [nI_clamp (by omega), show vp_nar .boolean 1 = (mnDb f1 g1 (mnSi (loudI r w f f0 ti ro n st no) si) (accL (fun _ => 1) db p) db) k from ((if_pos h288).symm : (1 : Int32) = _)]; exact upd_mix _ _ k]
                refine Y_iinc (v := nI (k + 1)) (lv' := [(5, .int (nI (k + 1))), (6, .int ((accL (fun _ => 1) db p) - 1)), (4, .int (accL (fun _ => 1) db p)), (3, .ref q), (2, .int (mnIs (loudI r w f f0 ti ro n st no))), (1, .ref (a 0)), (0, .ref (b 0))]) hX dX12_minute_325 (j := 1) rfl (by decide) (iinc1 k) rfl ?_
                refine Y_goto (tgt := 248) hX dX12_minute_328 (by decide) ?_
                have z := ih (k + 1) (by omega)
                refine Y_sub (lv' := [(5, .int (nI (k + 1))), (4, .int (accL (fun _ => 1) db p)), (3, .ref q), (2, .int (mnIs (loudI r w f f0 ti ro n st no))), (1, .ref (a 0)), (0, .ref (b 0))]) [0, 2, 3, 4, 5, 6] rfl ?_
                exact z
              · refine Y_aload_n hX dX12_minute_291 6 rfl ?_
                refine Y_get 1 0 hX fk_X12_124 rfl rfl rfl dX12_minute_292 ?_
                refine Y_iload hX dX12_minute_295 1 rfl ?_
                refine Y_aaldI (v := some (rb k)) 1 2 hX rfl rfl (vp_in_nI (by omega) (by omega)) (outC_at (by omega) hp) dX12_minute_297 ?_
                show Y X S K A 1 (0 + p) [stC S n p a (mixF (mnTi ti ro) ti n) ro (mixF (mnDb f1 g1 (mnSi (loudI r w f f0 ti ro n st no) si) (accL (fun _ => 1) db p) db) db k) (mnSt (loudI r w f f0 ti ro n st no) ru st) (no + 1) (mnRu (loudI r w f f0 ti ro n st no) ru) (mnSi (loudI r w f f0 ti ro n st no) si) (mnSp (loudI r w f f0 ti ro n st no) si mo sp) (accP pa g0 ro n), bnC S K n p b ra rb w f mo r, rwC S n ra f0 g0, rwC S p rb f1 g1, [(q, .inl (cAr S 2, p, .inl db))]] 298 [(6, .int ((accL (fun _ => 1) db p) - 1)), (5, .int (nI k)), (4, .int (accL (fun _ => 1) db p)), (3, .ref q), (2, .int (mnIs (loudI r w f f0 ti ro n st no))), (1, .ref (a 0)), (0, .ref (b 0))] [.ref (rb k)]
                refine Y_iconst (v := 1) hX dX12_minute_298 (by decide) ?_
                refine Y_iald (v := g1 k) 3 k hX rfl (rwC_at (by omega)) (inB_in (by decide)) rfl dX12_minute_299 ?_
                refine Y_if_le (tgt := 325) hX dX12_minute_300 (by decide) (fun h300 => ?_) (fun h300 => ?_)
                · refine Y_iinc (v := nI (k + 1)) (lv' := [(5, .int (nI (k + 1))), (6, .int ((accL (fun _ => 1) db p) - 1)), (4, .int (accL (fun _ => 1) db p)), (3, .ref q), (2, .int (mnIs (loudI r w f f0 ti ro n st no))), (1, .ref (a 0)), (0, .ref (b 0))]) hX dX12_minute_325 (j := 1) rfl (by decide) (iinc1 k) rfl ?_
                  refine Y_goto (tgt := 248) hX dX12_minute_328 (by decide) ?_
                  have z := ih (k + 1) (by omega)
                  rw [mix_skip (g := mnDb f1 g1 (mnSi (loudI r w f f0 ti ro n st no) si) (accL (fun _ => 1) db p) db) (f := db) (k := k) (by show mnDb _ _ _ _ _ _ = _; unfold mnDb; rw [if_neg h288, if_pos h300])] at z
                  refine Y_sub (lv' := [(5, .int (nI (k + 1))), (4, .int (accL (fun _ => 1) db p)), (3, .ref q), (2, .int (mnIs (loudI r w f f0 ti ro n st no))), (1, .ref (a 0)), (0, .ref (b 0))]) [0, 2, 3, 4, 5, 6] rfl ?_
                  exact z
                · refine Y_iload hX dX12_minute_303 0 rfl ?_
                  refine Y_aload_n hX dX12_minute_305 6 rfl ?_
                  refine Y_get 1 0 hX fk_X12_124 rfl rfl rfl dX12_minute_306 ?_
                  refine Y_iload hX dX12_minute_309 1 rfl ?_
                  refine Y_aaldI (v := some (rb k)) 1 2 hX rfl rfl (vp_in_nI (by omega) (by omega)) (outC_at (by omega) hp) dX12_minute_311 ?_
                  show Y X S K A 1 (0 + p) [stC S n p a (mixF (mnTi ti ro) ti n) ro (mixF (mnDb f1 g1 (mnSi (loudI r w f f0 ti ro n st no) si) (accL (fun _ => 1) db p) db) db k) (mnSt (loudI r w f f0 ti ro n st no) ru st) (no + 1) (mnRu (loudI r w f f0 ti ro n st no) ru) (mnSi (loudI r w f f0 ti ro n st no) si) (mnSp (loudI r w f f0 ti ro n st no) si mo sp) (accP pa g0 ro n), bnC S K n p b ra rb w f mo r, rwC S n ra f0 g0, rwC S p rb f1 g1, [(q, .inl (cAr S 2, p, .inl db))]] 312 [(6, .int ((accL (fun _ => 1) db p) - 1)), (5, .int (nI k)), (4, .int (accL (fun _ => 1) db p)), (3, .ref q), (2, .int (mnIs (loudI r w f f0 ti ro n st no))), (1, .ref (a 0)), (0, .ref (b 0))] [.ref (rb k), .int ((accL (fun _ => 1) db p) - 1)]
                  refine Y_iconst (v := 1) hX dX12_minute_312 (by decide) ?_
                  refine Y_iald (v := g1 k) 3 k hX rfl (rwC_at (by omega)) (inB_in (by decide)) rfl dX12_minute_313 ?_
                  refine Y_icmp_lt (tgt := 325) hX dX12_minute_314 (by decide) (fun h314 => ?_) (fun h314 => ?_)
                  · refine Y_iinc (v := nI (k + 1)) (lv' := [(5, .int (nI (k + 1))), (6, .int ((accL (fun _ => 1) db p) - 1)), (4, .int (accL (fun _ => 1) db p)), (3, .ref q), (2, .int (mnIs (loudI r w f f0 ti ro n st no))), (1, .ref (a 0)), (0, .ref (b 0))]) hX dX12_minute_325 (j := 1) rfl (by decide) (iinc1 k) rfl ?_
                    refine Y_goto (tgt := 248) hX dX12_minute_328 (by decide) ?_
                    have z := ih (k + 1) (by omega)
                    rw [mix_skip (g := mnDb f1 g1 (mnSi (loudI r w f f0 ti ro n st no) si) (accL (fun _ => 1) db p) db) (f := db) (k := k) (by show mnDb _ _ _ _ _ _ = _; unfold mnDb; rw [if_neg h288, if_neg h300, if_neg h264, if_pos h314])] at z
                    refine Y_sub (lv' := [(5, .int (nI (k + 1))), (4, .int (accL (fun _ => 1) db p)), (3, .ref q), (2, .int (mnIs (loudI r w f f0 ti ro n st no))), (1, .ref (a 0)), (0, .ref (b 0))]) [0, 2, 3, 4, 5, 6] rfl ?_
                    exact z
                  · refine Y_aload_n hX dX12_minute_317 5 rfl ?_
                    refine Y_get 0 0 hX fk_X12_116 rfl rfl rfl dX12_minute_318 ?_
                    refine Y_iload hX dX12_minute_321 1 rfl ?_
                    refine Y_iconst (v := 1) hX dX12_minute_323 (by decide) ?_
                    refine Y_zast 0 3 hX rfl rfl (vp_in_nI (by omega) (by omega)) dX12_minute_324 ?_
                    show Y X S K A 1 (0 + p) [[(a 0, .inr (13, [.ref (a 1), .ref (a 2), .int (mnSt (loudI r w f f0 ti ro n st no) ru st), .int (no + 1), .int (mnRu (loudI r w f f0 ti ro n st no) ru), .int (mnSi (loudI r w f f0 ti ro n st no) si), .int (mnSp (loudI r w f f0 ti ro n st no) si mo sp), .int (accP pa g0 ro n), .ref (a 3)])), (a 1, .inl (cAr S 0, n, .inl (mixF (mnTi ti ro) ti n))), (a 2, .inl (cAr S 2, n, .inl ro)), (a 3, .inl (cAr S 2, p, .inl (upd (mixF (mnDb f1 g1 (mnSi (loudI r w f f0 ti ro n st no) si) (accL (fun _ => 1) db p) db) db k) (nI k).toNatClampNeg (vp_nar .boolean 1))))], bnC S K n p b ra rb w f mo r, rwC S n ra f0 g0, rwC S p rb f1 g1, [(q, .inl (cAr S 2, p, .inl db))]] 325 [(6, .int ((accL (fun _ => 1) db p) - 1)), (5, .int (nI k)), (4, .int (accL (fun _ => 1) db p)), (3, .ref q), (2, .int (mnIs (loudI r w f f0 ti ro n st no))), (1, .ref (a 0)), (0, .ref (b 0))] []
                    rw [show (upd (mixF (mnDb f1 g1 (mnSi (loudI r w f f0 ti ro n st no) si) (accL (fun _ => 1) db p) db) db k) (nI k).toNatClampNeg (vp_nar .boolean 1)) = mixF (mnDb f1 g1 (mnSi (loudI r w f f0 ti ro n st no) si) (accL (fun _ => 1) db p) db) db (k + 1) from by rw [nI_clamp (by omega), show vp_nar .boolean 1 = (mnDb f1 g1 (mnSi (loudI r w f f0 ti ro n st no) si) (accL (fun _ => 1) db p) db) k from (by show (1 : Int32) = mnDb _ _ _ _ _ _; unfold mnDb; rw [if_neg h288, if_neg h300, if_neg h264, if_neg h314])]; exact upd_mix _ _ k]
                    refine Y_iinc (v := nI (k + 1)) (lv' := [(5, .int (nI (k + 1))), (6, .int ((accL (fun _ => 1) db p) - 1)), (4, .int (accL (fun _ => 1) db p)), (3, .ref q), (2, .int (mnIs (loudI r w f f0 ti ro n st no))), (1, .ref (a 0)), (0, .ref (b 0))]) hX dX12_minute_325 (j := 1) rfl (by decide) (iinc1 k) rfl ?_
                    refine Y_goto (tgt := 248) hX dX12_minute_328 (by decide) ?_
                    have z := ih (k + 1) (by omega)
                    refine Y_sub (lv' := [(5, .int (nI (k + 1))), (4, .int (accL (fun _ => 1) db p)), (3, .ref q), (2, .int (mnIs (loudI r w f f0 ti ro n st no))), (1, .ref (a 0)), (0, .ref (b 0))]) [0, 2, 3, 4, 5, 6] rfl ?_
                    exact z
        have loopB : ∀ (m k : Nat), k + m = p → Y X S K A 1 (0 + p) [stC S n p a (mixF (mnTi ti ro) ti n) ro db (mnSt (loudI r w f f0 ti ro n st no) ru st) (no + 1) (mnRu (loudI r w f f0 ti ro n st no) ru) (mnSi (loudI r w f f0 ti ro n st no) si) (mnSp (loudI r w f f0 ti ro n st no) si mo sp) (accP pa g0 ro n), bnC S K n p b ra rb w f mo r, rwC S n ra f0 g0, rwC S p rb f1 g1, [(q, .inl (cAr S 2, p, .inl db))]] 217 [(7, .int (nI k)), (6, .int (nI p)), (5, .ref q), (4, .int (accL (fun _ => 1) db k)), (3, .ref q), (2, .int (mnIs (loudI r w f f0 ti ro n st no))), (1, .ref (a 0)), (0, .ref (b 0))] [] := by
          intro m
          induction m with
          | zero =>
            intro k hk
            obtain hk : k = p := by omega
            rw [hk]
            refine Y_iload hX dX12_minute_217 0 rfl ?_
            refine Y_iload hX dX12_minute_219 1 rfl ?_
            refine Y_icmp_ge (tgt := 245) hX dX12_minute_221 (by decide) (fun _ => ?_) (fun z => absurd (nI_le (Nat.le_refl _) (by omega)) z)
            refine Y_iconst (v := 0) hX dX12_minute_245 (by decide) ?_
            refine Y_istore (lv' := [(5, .int 0), (7, .int (nI p)), (6, .int (nI p)), (4, .int (accL (fun _ => 1) db p)), (3, .ref q), (2, .int (mnIs (loudI r w f f0 ti ro n st no))), (1, .ref (a 0)), (0, .ref (b 0))]) hX dX12_minute_246 (by decide) rfl ?_
            refine Y_bl (bl' := [stC S n p a (mixF (mnTi ti ro) ti n) ro (mixF (mnDb f1 g1 (mnSi (loudI r w f f0 ti ro n st no) si) (accL (fun _ => 1) db p) db) db 0) (mnSt (loudI r w f f0 ti ro n st no) ru st) (no + 1) (mnRu (loudI r w f f0 ti ro n st no) ru) (mnSi (loudI r w f f0 ti ro n st no) si) (mnSp (loudI r w f f0 ti ro n st no) si mo sp) (accP pa g0 ro n), bnC S K n p b ra rb w f mo r, rwC S n ra f0 g0, rwC S p rb f1 g1, [(q, .inl (cAr S 2, p, .inl db))]]) (by rw [mixF_0]) ?_
            refine Y_sub (lv' := [(5, .int 0), (4, .int (accL (fun _ => 1) db p)), (3, .ref q), (2, .int (mnIs (loudI r w f f0 ti ro n st no))), (1, .ref (a 0)), (0, .ref (b 0))]) [0, 3, 4, 5, 6, 7] rfl ?_
            exact loopC p 0 (by omega)
          | succ m ih =>
            intro k hk
            refine Y_iload hX dX12_minute_217 0 rfl ?_
            refine Y_iload hX dX12_minute_219 1 rfl ?_
            refine Y_icmp_ge (tgt := 245) hX dX12_minute_221 (by decide) (fun z => absurd z (nI_ge (show k < p by omega) (by omega))) (fun _ => ?_)
            refine Y_aload hX dX12_minute_224 2 rfl ?_
            refine Y_iload hX dX12_minute_226 0 rfl ?_
            refine Y_zald (v := db k) 4 0 hX rfl rfl (vp_in_nI (by omega) (by omega)) (at8 (by omega)) dX12_minute_228 ?_
            refine Y_istore (lv' := [(8, .int (db k)), (7, .int (nI k)), (6, .int (nI p)), (5, .ref q), (4, .int (accL (fun _ => 1) db k)), (3, .ref q), (2, .int (mnIs (loudI r w f f0 ti ro n st no))), (1, .ref (a 0)), (0, .ref (b 0))]) hX dX12_minute_229 (by decide) rfl ?_
            refine Y_iload hX dX12_minute_231 0 rfl ?_
            refine Y_if_eq (tgt := 239) hX dX12_minute_233 (by decide) (fun h233 => ?_) (fun h233 => ?_)
            · refine Y_iinc (v := nI (k + 1)) (lv' := [(7, .int (nI (k + 1))), (8, .int (db k)), (6, .int (nI p)), (5, .ref q), (4, .int (accL (fun _ => 1) db k)), (3, .ref q), (2, .int (mnIs (loudI r w f f0 ti ro n st no))), (1, .ref (a 0)), (0, .ref (b 0))]) hX dX12_minute_239 (j := 1) rfl (by decide) (iinc1 k) rfl ?_
              refine Y_goto (tgt := 217) hX dX12_minute_242 (by decide) ?_
              have z := ih (k + 1) (by omega)
              rw [show accL (fun _ => 1) db (k + 1) = accL (fun _ => 1) db k from if_pos h233] at z
              refine Y_sub (lv' := [(7, .int (nI (k + 1))), (6, .int (nI p)), (5, .ref q), (4, .int (accL (fun _ => 1) db k)), (3, .ref q), (2, .int (mnIs (loudI r w f f0 ti ro n st no))), (1, .ref (a 0)), (0, .ref (b 0))]) [0, 2, 3, 4, 5, 6, 7, 8] rfl ?_
              exact z
            · refine Y_iinc (v := accL (fun _ => 1) db k + 1) (lv' := [(4, .int (accL (fun _ => 1) db k + 1)), (8, .int (db k)), (7, .int (nI k)), (6, .int (nI p)), (5, .ref q), (3, .ref q), (2, .int (mnIs (loudI r w f f0 ti ro n st no))), (1, .ref (a 0)), (0, .ref (b 0))]) hX dX12_minute_236 (j := 4) rfl (by decide) rfl rfl ?_
              refine Y_iinc (v := nI (k + 1)) (lv' := [(7, .int (nI (k + 1))), (4, .int (accL (fun _ => 1) db k + 1)), (8, .int (db k)), (6, .int (nI p)), (5, .ref q), (3, .ref q), (2, .int (mnIs (loudI r w f f0 ti ro n st no))), (1, .ref (a 0)), (0, .ref (b 0))]) hX dX12_minute_239 (j := 2) rfl (by decide) (iinc1 k) rfl ?_
              refine Y_goto (tgt := 217) hX dX12_minute_242 (by decide) ?_
              have z := ih (k + 1) (by omega)
              rw [show accL (fun _ => 1) db (k + 1) = accL (fun _ => 1) db k + 1 from if_neg h233] at z
              refine Y_sub (lv' := [(7, .int (nI (k + 1))), (6, .int (nI p)), (5, .ref q), (4, .int (accL (fun _ => 1) db k + 1)), (3, .ref q), (2, .int (mnIs (loudI r w f f0 ti ro n st no))), (1, .ref (a 0)), (0, .ref (b 0))]) [0, 3, 4, 1, 5, 6, 7, 8] rfl ?_
              exact z
        exact loopB p 0 (by omega)
      | succ m ih =>
        intro k hk
        refine Y_iload_n hX dX12_minute_98 0 rfl ?_
        refine Y_aload_n hX dX12_minute_99 3 rfl ?_
        refine Y_get 1 0 hX fk_X12_73 rfl rfl rfl dX12_minute_100 ?_
        refine Y_alen (t0 := 5) (v := nI n) 1 1 hX rfl rfl rfl rfl dX12_minute_103 ?_
        refine Y_icmp_ge (tgt := 182) hX dX12_minute_104 (by decide) (fun z => absurd z (nI_ge (show k < n by omega) (by omega))) (fun _ => ?_)
        refine Y_aload_n hX dX12_minute_107 2 rfl ?_
        refine Y_get 0 0 hX fk_X12_77 rfl rfl rfl dX12_minute_108 ?_
        refine Y_iload_n hX dX12_minute_111 0 rfl ?_
        refine Y_zald (v := ro k) 0 2 hX rfl rfl (vp_in_nI (by omega) (by omega)) (at8 (by omega)) dX12_minute_112 ?_
        refine Y_if_eq (tgt := 133) hX dX12_minute_113 (by decide) (fun h113 => ?_) (fun h113 => ?_)
        · refine Y_aload_n hX dX12_minute_133 2 rfl ?_
          refine Y_get 0 0 hX fk_X12_81 rfl rfl rfl dX12_minute_134 ?_
          refine Y_iload_n hX dX12_minute_137 0 rfl ?_
          refine Y_aload_n hX dX12_minute_138 2 rfl ?_
          refine Y_get 0 0 hX fk_X12_77 rfl rfl rfl dX12_minute_139 ?_
          refine Y_iload_n hX dX12_minute_142 0 rfl ?_
          refine Y_zald (v := ro k) 0 2 hX rfl rfl (vp_in_nI (by omega) (by omega)) (at8 (by omega)) dX12_minute_143 ?_
          refine Y_if_eq (tgt := 163) hX dX12_minute_144 (by decide) (fun _ => ?_) (fun z => absurd h113 z)
          refine Y_iconst (v := 0) hX dX12_minute_163 (by decide) ?_
          refine Y_aload_n hX dX12_minute_164 2 rfl ?_
          refine Y_get 0 0 hX fk_X12_81 rfl rfl rfl dX12_minute_165 ?_
          refine Y_iload_n hX dX12_minute_168 0 rfl ?_
          refine Y_iald (v := ti k) 0 1 hX rfl rfl (vp_in_nI (by omega) (by omega)) (by rw [nI_clamp (by omega)]; exact mixF_at _ _ k) dX12_minute_169 ?_
          refine Y_iconst (v := 1) hX dX12_minute_170 (by decide) ?_
          refine Y_isub hX dX12_minute_171 ?_
          refine Y_max hX mk_X12_113 ⟨⟨Nat.le_of_ble_eq_true rfl, Nat.le_of_ble_eq_true rfl⟩, Nat.le_of_ble_eq_true rfl, Nat.le_of_ble_eq_true rfl⟩ dX12_minute_172 ?_
          refine Y_eqi (x' := mnTi ti ro k) (by unfold mnTi; rw [if_pos h113]) ?_
          refine Y_iast 0 1 hX rfl rfl (vp_in_nI (by omega) (by omega)) dX12_minute_175 ?_
          show Y X S K A 0 0 [[(a 0, .inr (13, [.ref (a 1), .ref (a 2), .int (mnSt (loudI r w f f0 ti ro n st no) ru st), .int no, .int (mnRu (loudI r w f f0 ti ro n st no) ru), .int (mnSi (loudI r w f f0 ti ro n st no) si), .int (mnSp (loudI r w f f0 ti ro n st no) si mo sp), .int (accP pa g0 ro k), .ref (a 3)])), (a 1, .inl (cAr S 0, n, .inl (upd (mixF (mnTi ti ro) ti k) (nI k).toNatClampNeg (mnTi ti ro k)))), (a 2, .inl (cAr S 2, n, .inl ro)), (a 3, .inl (cAr S 2, p, .inl db))], bnC S K n p b ra rb w f mo r, rwC S n ra f0 g0, rwC S p rb f1 g1] 176 [(3, .int (nI k)), (2, .int (mnIs (loudI r w f f0 ti ro n st no))), (1, .ref (a 0)), (0, .ref (b 0))] []
          rw [show (upd (mixF (mnTi ti ro) ti k) (nI k).toNatClampNeg (mnTi ti ro k)) = mixF (mnTi ti ro) ti (k + 1) from by rw [nI_clamp (by omega)]; exact upd_mix _ _ k]
          refine Y_iinc (v := nI (k + 1)) (lv' := [(3, .int (nI (k + 1))), (2, .int (mnIs (loudI r w f f0 ti ro n st no))), (1, .ref (a 0)), (0, .ref (b 0))]) hX dX12_minute_176 (j := 0) rfl (by decide) (iinc1 k) rfl ?_
          refine Y_goto (tgt := 98) hX dX12_minute_179 (by decide) ?_
          have z := ih (k + 1) (by omega)
          rw [show accP pa g0 ro (k + 1) = accP pa g0 ro k from if_pos h113] at z
          exact z
        · refine Y_aload_n hX dX12_minute_116 2 rfl ?_
          refine Y_dup hX dX12_minute_117 rfl ?_
          refine Y_get 0 0 hX fk_X12_105 rfl rfl rfl dX12_minute_118 ?_
          refine Y_aload_n hX dX12_minute_121 3 rfl ?_
          refine Y_get 1 0 hX fk_X12_73 rfl rfl rfl dX12_minute_122 ?_
          refine Y_iload_n hX dX12_minute_125 0 rfl ?_
          refine Y_aaldI (v := some (ra k)) 1 1 hX rfl rfl (vp_in_nI (by omega) (by omega)) (outC_at (by omega) hn) dX12_minute_126 ?_
          show Y X S K A 0 0 [stC S n p a (mixF (mnTi ti ro) ti k) ro db (mnSt (loudI r w f f0 ti ro n st no) ru st) no (mnRu (loudI r w f f0 ti ro n st no) ru) (mnSi (loudI r w f f0 ti ro n st no) si) (mnSp (loudI r w f f0 ti ro n st no) si mo sp) (accP pa g0 ro k), bnC S K n p b ra rb w f mo r, rwC S n ra f0 g0, rwC S p rb f1 g1] 127 [(3, .int (nI k)), (2, .int (mnIs (loudI r w f f0 ti ro n st no))), (1, .ref (a 0)), (0, .ref (b 0))] [.ref (ra k), .int (accP pa g0 ro k), .ref (a 0)]
          refine Y_iconst (v := 1) hX dX12_minute_127 (by decide) ?_
          refine Y_iald (v := g0 k) 2 k hX rfl (rwC_at (by omega)) (inB_in (by decide)) rfl dX12_minute_128 ?_
          refine Y_iadd hX dX12_minute_129 ?_
          refine Y_put 0 0 hX fw_X12_105 rfl rfl ⟨rfl, rfl, Nat.le_of_ble_eq_true rfl⟩ dX12_minute_130 ?_
          show Y X S K A 0 0 [[(a 0, .inr (13, [.ref (a 1), .ref (a 2), .int (mnSt (loudI r w f f0 ti ro n st no) ru st), .int no, .int (mnRu (loudI r w f f0 ti ro n st no) ru), .int (mnSi (loudI r w f f0 ti ro n st no) si), .int (mnSp (loudI r w f f0 ti ro n st no) si mo sp), .int ((accP pa g0 ro k) + (g0 k)), .ref (a 3)])), (a 1, .inl (cAr S 0, n, .inl (mixF (mnTi ti ro) ti k))), (a 2, .inl (cAr S 2, n, .inl ro)), (a 3, .inl (cAr S 2, p, .inl db))], bnC S K n p b ra rb w f mo r, rwC S n ra f0 g0, rwC S p rb f1 g1] 133 [(3, .int (nI k)), (2, .int (mnIs (loudI r w f f0 ti ro n st no))), (1, .ref (a 0)), (0, .ref (b 0))] []
          refine Y_aload_n hX dX12_minute_133 2 rfl ?_
          refine Y_get 0 0 hX fk_X12_81 rfl rfl rfl dX12_minute_134 ?_
          refine Y_iload_n hX dX12_minute_137 0 rfl ?_
          refine Y_aload_n hX dX12_minute_138 2 rfl ?_
          refine Y_get 0 0 hX fk_X12_77 rfl rfl rfl dX12_minute_139 ?_
          refine Y_iload_n hX dX12_minute_142 0 rfl ?_
          refine Y_zald (v := ro k) 0 2 hX rfl rfl (vp_in_nI (by omega) (by omega)) (at8 (by omega)) dX12_minute_143 ?_
          refine Y_if_eq (tgt := 163) hX dX12_minute_144 (by decide) (fun z => absurd z h113) (fun _ => ?_)
          refine Y_bipush (v := 99) hX dX12_minute_147 (by decide) ?_
          refine Y_aload_n hX dX12_minute_149 2 rfl ?_
          refine Y_get 0 0 hX fk_X12_81 rfl rfl rfl dX12_minute_150 ?_
          refine Y_iload_n hX dX12_minute_153 0 rfl ?_
          refine Y_iald (v := ti k) 0 1 hX rfl rfl (vp_in_nI (by omega) (by omega)) (by rw [nI_clamp (by omega)]; exact mixF_at _ _ k) dX12_minute_154 ?_
          refine Y_iconst (v := 2) hX dX12_minute_155 (by decide) ?_
          refine Y_iadd hX dX12_minute_156 ?_
          refine Y_min hX mk_X12_108 ⟨⟨Nat.le_of_ble_eq_true rfl, Nat.le_of_ble_eq_true rfl⟩, Nat.le_of_ble_eq_true rfl, Nat.le_of_ble_eq_true rfl⟩ dX12_minute_157 ?_
          refine Y_goto (tgt := 175) hX dX12_minute_160 (by decide) ?_
          refine Y_eqi (x' := mnTi ti ro k) (by unfold mnTi; rw [if_neg h113]) ?_
          refine Y_iast 0 1 hX rfl rfl (vp_in_nI (by omega) (by omega)) dX12_minute_175 ?_
          show Y X S K A 0 0 [[(a 0, .inr (13, [.ref (a 1), .ref (a 2), .int (mnSt (loudI r w f f0 ti ro n st no) ru st), .int no, .int (mnRu (loudI r w f f0 ti ro n st no) ru), .int (mnSi (loudI r w f f0 ti ro n st no) si), .int (mnSp (loudI r w f f0 ti ro n st no) si mo sp), .int ((accP pa g0 ro k) + (g0 k)), .ref (a 3)])), (a 1, .inl (cAr S 0, n, .inl (upd (mixF (mnTi ti ro) ti k) (nI k).toNatClampNeg (mnTi ti ro k)))), (a 2, .inl (cAr S 2, n, .inl ro)), (a 3, .inl (cAr S 2, p, .inl db))], bnC S K n p b ra rb w f mo r, rwC S n ra f0 g0, rwC S p rb f1 g1] 176 [(3, .int (nI k)), (2, .int (mnIs (loudI r w f f0 ti ro n st no))), (1, .ref (a 0)), (0, .ref (b 0))] []
          rw [show (upd (mixF (mnTi ti ro) ti k) (nI k).toNatClampNeg (mnTi ti ro k)) = mixF (mnTi ti ro) ti (k + 1) from by rw [nI_clamp (by omega)]; exact upd_mix _ _ k]
          refine Y_iinc (v := nI (k + 1)) (lv' := [(3, .int (nI (k + 1))), (2, .int (mnIs (loudI r w f f0 ti ro n st no))), (1, .ref (a 0)), (0, .ref (b 0))]) hX dX12_minute_176 (j := 0) rfl (by decide) (iinc1 k) rfl ?_
          refine Y_goto (tgt := 98) hX dX12_minute_179 (by decide) ?_
          have z := ih (k + 1) (by omega)
          rw [show accP pa g0 ro (k + 1) = accP pa g0 ro k + g0 k from if_neg h113] at z
          exact z
    refine Y_iconst (v := 0) hX dX12_minute_96 (by decide) ?_
    refine Y_istore_n (lv' := [(3, .int 0), (2, .int (mnIs (loudI r w f f0 ti ro n st no))), (1, .ref (a 0)), (0, .ref (b 0))]) hX dX12_minute_97 (by decide) rfl ?_
    refine Y_bl (bl' := [stC S n p a (mixF (mnTi ti ro) ti 0) ro db (mnSt (loudI r w f f0 ti ro n st no) ru st) no (mnRu (loudI r w f f0 ti ro n st no) ru) (mnSi (loudI r w f f0 ti ro n st no) si) (mnSp (loudI r w f f0 ti ro n st no) si mo sp) (accP pa g0 ro 0), bnC S K n p b ra rb w f mo r, rwC S n ra f0 g0, rwC S p rb f1 g1]) (by rw [mixF_0]; rfl) ?_
    exact loopA n 0 (by omega)
  refine Y_aload_n hX dX12_minute_0 0 rfl ?_
  refine Y_aload_n hX dX12_minute_1 1 rfl ?_
  refine Y_resi hX (sub := [stC S n p a ti ro db st no ru si sp pa, bnC S K n p b ra rb w f mo r, rwC S n ra f0 g0]) (rst := [rwC S p rb f1 g1]) rfl (Y_runV (b := 1) (i := 0) (As := [.ref (a 0)]) (rest := []) hX hE2 mk_X12_89 nkY_X12_loud hE (cY_X12_loud hE hF n p a ti ro db st no ru si sp pa b ra rb w f mo r f0 g0 hn hp) rfl Ecall.same rfl rfl rfl ⟨rfl, rfl⟩ ⟨Nat.le_of_ble_eq_true rfl, Nat.le_of_ble_eq_true rfl⟩ rfl rfl (Nat.le_of_ble_eq_true rfl) dX12_minute_2 ⟨Nat.le_of_ble_eq_true rfl, Nat.le_of_ble_eq_true rfl⟩) (fun u2 => ?_)
  show Y X S K A 0 0 [stC S n p a ti ro db st no ru si sp pa, bnC S K n p b ra rb w f mo r, rwC S n ra f0 g0, rwC S p rb f1 g1] 5 [(0, .ref (b 0)), (1, .ref (a 0))] [.int (loudI r w f f0 ti ro n st no)]
  refine Y_if_le (tgt := 12) hX dX12_minute_5 (by decide) (fun h5 => ?_) (fun h5 => ?_)
  · refine Y_iconst (v := 0) hX dX12_minute_12 (by decide) ?_
    refine Y_istore_n (lv' := [(2, .int 0), (0, .ref (b 0)), (1, .ref (a 0))]) hX dX12_minute_13 (by decide) rfl ?_
    refine Y_iload_n hX dX12_minute_14 0 rfl ?_
    refine Y_if_eq (tgt := 63) hX dX12_minute_15 (by decide) (fun _ => ?_) (fun z => absurd (show (0 : Int32) = 0 from rfl) z)
    refine Y_aload_n hX dX12_minute_63 2 rfl ?_
    refine Y_dup hX dX12_minute_64 rfl ?_
    refine Y_get 0 0 hX fk_X12_93 rfl rfl rfl dX12_minute_65 ?_
    refine Y_iconst (v := 1) hX dX12_minute_68 (by decide) ?_
    refine Y_iadd hX dX12_minute_69 ?_
    refine Y_put 0 0 hX fw_X12_93 rfl rfl ⟨rfl, rfl, Nat.le_of_ble_eq_true rfl⟩ dX12_minute_70 ?_
    show Y X S K A 0 0 [[(a 0, .inr (13, [.ref (a 1), .ref (a 2), .int st, .int no, .int ru, .int (si + 1), .int sp, .int pa, .ref (a 3)])), (a 1, .inl (cAr S 0, n, .inl ti)), (a 2, .inl (cAr S 2, n, .inl ro)), (a 3, .inl (cAr S 2, p, .inl db))], bnC S K n p b ra rb w f mo r, rwC S n ra f0 g0, rwC S p rb f1 g1] 73 [(2, .int 0), (0, .ref (b 0)), (1, .ref (a 0))] []
    refine Y_aload_n hX dX12_minute_73 2 rfl ?_
    refine Y_get 0 0 hX fk_X12_93 rfl rfl rfl dX12_minute_74 ?_
    refine Y_aload_n hX dX12_minute_77 1 rfl ?_
    refine Y_get 1 0 hX fk_X12_99 rfl rfl rfl dX12_minute_78 ?_
    refine Y_iconst (v := 1) hX dX12_minute_81 (by decide) ?_
    refine Y_iadd hX dX12_minute_82 ?_
    refine Y_icmp_ne (tgt := 96) hX dX12_minute_83 (by decide) (fun h83 => ?_) (fun h83 => ?_)
    · have e1 : mnSt (loudI r w f f0 ti ro n st no) ru st = st := if_pos h5
      have e2 : mnRu (loudI r w f f0 ti ro n st no) ru = ru := if_pos h5
      have e3 : mnSi (loudI r w f f0 ti ro n st no) si = si + 1 := if_pos h5
      have e5 : mnIs (loudI r w f f0 ti ro n st no) = 0 := if_pos h5
      have e4 : mnSp (loudI r w f f0 ti ro n st no) si mo sp = sp := (if_pos h5).trans (if_neg h83)
      refine Y_sub (lv' := [(2, .int 0), (1, .ref (a 0)), (0, .ref (b 0))]) [0, 2, 1] rfl ?_
      refine Y_bl (bl' := [stC S n p a ti ro db (mnSt (loudI r w f f0 ti ro n st no) ru st) no (mnRu (loudI r w f f0 ti ro n st no) ru) (mnSi (loudI r w f f0 ti ro n st no) si) (mnSp (loudI r w f f0 ti ro n st no) si mo sp) pa, bnC S K n p b ra rb w f mo r, rwC S n ra f0 g0, rwC S p rb f1 g1]) (by rw [e1, e2, e3, e4]; rfl) ?_
      rw [← e5]
      exact k96
    · refine Y_aload_n hX dX12_minute_86 2 rfl ?_
      refine Y_dup hX dX12_minute_87 rfl ?_
      refine Y_get 0 0 hX fk_X12_102 rfl rfl rfl dX12_minute_88 ?_
      refine Y_iconst (v := 1) hX dX12_minute_91 (by decide) ?_
      refine Y_iadd hX dX12_minute_92 ?_
      refine Y_put 0 0 hX fw_X12_102 rfl rfl ⟨rfl, rfl, Nat.le_of_ble_eq_true rfl⟩ dX12_minute_93 ?_
      show Y X S K A 0 0 [[(a 0, .inr (13, [.ref (a 1), .ref (a 2), .int st, .int no, .int ru, .int (si + 1), .int (sp + 1), .int pa, .ref (a 3)])), (a 1, .inl (cAr S 0, n, .inl ti)), (a 2, .inl (cAr S 2, n, .inl ro)), (a 3, .inl (cAr S 2, p, .inl db))], bnC S K n p b ra rb w f mo r, rwC S n ra f0 g0, rwC S p rb f1 g1] 96 [(2, .int 0), (0, .ref (b 0)), (1, .ref (a 0))] []
      have e1 : mnSt (loudI r w f f0 ti ro n st no) ru st = st := if_pos h5
      have e2 : mnRu (loudI r w f f0 ti ro n st no) ru = ru := if_pos h5
      have e3 : mnSi (loudI r w f f0 ti ro n st no) si = si + 1 := if_pos h5
      have e5 : mnIs (loudI r w f f0 ti ro n st no) = 0 := if_pos h5
      have e4 : mnSp (loudI r w f f0 ti ro n st no) si mo sp = sp + 1 := (if_pos h5).trans (if_pos h83)
      refine Y_sub (lv' := [(2, .int 0), (1, .ref (a 0)), (0, .ref (b 0))]) [0, 2, 1] rfl ?_
      refine Y_bl (bl' := [stC S n p a ti ro db (mnSt (loudI r w f f0 ti ro n st no) ru st) no (mnRu (loudI r w f f0 ti ro n st no) ru) (mnSi (loudI r w f f0 ti ro n st no) si) (mnSp (loudI r w f f0 ti ro n st no) si mo sp) pa, bnC S K n p b ra rb w f mo r, rwC S n ra f0 g0, rwC S p rb f1 g1]) (by rw [e1, e2, e3, e4]; rfl) ?_
      rw [← e5]
      exact k96
  · refine Y_iconst (v := 1) hX dX12_minute_8 (by decide) ?_
    refine Y_goto (tgt := 13) hX dX12_minute_9 (by decide) ?_
    refine Y_istore_n (lv' := [(2, .int 1), (0, .ref (b 0)), (1, .ref (a 0))]) hX dX12_minute_13 (by decide) rfl ?_
    refine Y_iload_n hX dX12_minute_14 0 rfl ?_
    refine Y_if_eq (tgt := 63) hX dX12_minute_15 (by decide) (fun z => absurd z (show ¬ (1 : Int32) = 0 by decide)) (fun _ => ?_)
    refine Y_aload_n hX dX12_minute_18 2 rfl ?_
    refine Y_iconst (v := 0) hX dX12_minute_19 (by decide) ?_
    refine Y_put 0 0 hX fw_X12_93 rfl rfl ⟨rfl, rfl, Nat.le_of_ble_eq_true rfl⟩ dX12_minute_20 ?_
    show Y X S K A 0 0 [[(a 0, .inr (13, [.ref (a 1), .ref (a 2), .int st, .int no, .int ru, .int 0, .int sp, .int pa, .ref (a 3)])), (a 1, .inl (cAr S 0, n, .inl ti)), (a 2, .inl (cAr S 2, n, .inl ro)), (a 3, .inl (cAr S 2, p, .inl db))], bnC S K n p b ra rb w f mo r, rwC S n ra f0 g0, rwC S p rb f1 g1] 23 [(2, .int 1), (0, .ref (b 0)), (1, .ref (a 0))] []
    refine Y_aload_n hX dX12_minute_23 2 rfl ?_
    refine Y_dup hX dX12_minute_24 rfl ?_
    refine Y_get 0 0 hX fk_X12_96 rfl rfl rfl dX12_minute_25 ?_
    refine Y_iconst (v := 1) hX dX12_minute_28 (by decide) ?_
    refine Y_iadd hX dX12_minute_29 ?_
    refine Y_put 0 0 hX fw_X12_96 rfl rfl ⟨rfl, rfl, Nat.le_of_ble_eq_true rfl⟩ dX12_minute_30 ?_
    show Y X S K A 0 0 [[(a 0, .inr (13, [.ref (a 1), .ref (a 2), .int st, .int no, .int (ru + 1), .int 0, .int sp, .int pa, .ref (a 3)])), (a 1, .inl (cAr S 0, n, .inl ti)), (a 2, .inl (cAr S 2, n, .inl ro)), (a 3, .inl (cAr S 2, p, .inl db))], bnC S K n p b ra rb w f mo r, rwC S n ra f0 g0, rwC S p rb f1 g1] 33 [(2, .int 1), (0, .ref (b 0)), (1, .ref (a 0))] []
    refine Y_aload_n hX dX12_minute_33 2 rfl ?_
    refine Y_get 0 0 hX fk_X12_96 rfl rfl rfl dX12_minute_34 ?_
    refine Y_bipush (v := 10) hX dX12_minute_37 (by decide) ?_
    refine Y_irem hX dX12_minute_39 (by decide) ?_
    refine Y_if_ne (tgt := 96) hX dX12_minute_40 (by decide) (fun h40 => ?_) (fun h40 => ?_)
    · have e2 : mnRu (loudI r w f f0 ti ro n st no) ru = ru + 1 := if_neg h5
      have e3 : mnSi (loudI r w f f0 ti ro n st no) si = 0 := if_neg h5
      have e5 : mnIs (loudI r w f f0 ti ro n st no) = 1 := if_neg h5
      have e4 : mnSp (loudI r w f f0 ti ro n st no) si mo sp = sp := if_neg h5
      have e1 : mnSt (loudI r w f f0 ti ro n st no) ru st = st := (if_neg h5).trans (if_neg h40)
      refine Y_sub (lv' := [(2, .int 1), (1, .ref (a 0)), (0, .ref (b 0))]) [0, 2, 1] rfl ?_
      refine Y_bl (bl' := [stC S n p a ti ro db (mnSt (loudI r w f f0 ti ro n st no) ru st) no (mnRu (loudI r w f f0 ti ro n st no) ru) (mnSi (loudI r w f f0 ti ro n st no) si) (mnSp (loudI r w f f0 ti ro n st no) si mo sp) pa, bnC S K n p b ra rb w f mo r, rwC S n ra f0 g0, rwC S p rb f1 g1]) (by rw [e1, e2, e3, e4]; rfl) ?_
      rw [← e5]
      exact k96
    · refine Y_aload_n hX dX12_minute_43 2 rfl ?_
      refine Y_get 0 0 hX fk_X12_70 rfl rfl rfl dX12_minute_44 ?_
      refine Y_if_le (tgt := 96) hX dX12_minute_47 (by decide) (fun h47 => ?_) (fun h47 => ?_)
      · have e2 : mnRu (loudI r w f f0 ti ro n st no) ru = ru + 1 := if_neg h5
        have e3 : mnSi (loudI r w f f0 ti ro n st no) si = 0 := if_neg h5
        have e5 : mnIs (loudI r w f f0 ti ro n st no) = 1 := if_neg h5
        have e4 : mnSp (loudI r w f f0 ti ro n st no) si mo sp = sp := if_neg h5
        have e1 : mnSt (loudI r w f f0 ti ro n st no) ru st = st := (if_neg h5).trans ((if_pos h40).trans (if_pos h47))
        refine Y_sub (lv' := [(2, .int 1), (1, .ref (a 0)), (0, .ref (b 0))]) [0, 2, 1] rfl ?_
        refine Y_bl (bl' := [stC S n p a ti ro db (mnSt (loudI r w f f0 ti ro n st no) ru st) no (mnRu (loudI r w f f0 ti ro n st no) ru) (mnSi (loudI r w f f0 ti ro n st no) si) (mnSp (loudI r w f f0 ti ro n st no) si mo sp) pa, bnC S K n p b ra rb w f mo r, rwC S n ra f0 g0, rwC S p rb f1 g1]) (by rw [e1, e2, e3, e4]; rfl) ?_
        rw [← e5]
        exact k96
      · refine Y_aload_n hX dX12_minute_50 2 rfl ?_
        refine Y_dup hX dX12_minute_51 rfl ?_
        refine Y_get 0 0 hX fk_X12_70 rfl rfl rfl dX12_minute_52 ?_
        refine Y_iconst (v := 1) hX dX12_minute_55 (by decide) ?_
        refine Y_isub hX dX12_minute_56 ?_
        refine Y_put 0 0 hX fw_X12_70 rfl rfl ⟨rfl, rfl, Nat.le_of_ble_eq_true rfl⟩ dX12_minute_57 ?_
        show Y X S K A 0 0 [[(a 0, .inr (13, [.ref (a 1), .ref (a 2), .int (st - 1), .int no, .int (ru + 1), .int 0, .int sp, .int pa, .ref (a 3)])), (a 1, .inl (cAr S 0, n, .inl ti)), (a 2, .inl (cAr S 2, n, .inl ro)), (a 3, .inl (cAr S 2, p, .inl db))], bnC S K n p b ra rb w f mo r, rwC S n ra f0 g0, rwC S p rb f1 g1] 60 [(2, .int 1), (0, .ref (b 0)), (1, .ref (a 0))] []
        refine Y_goto (tgt := 96) hX dX12_minute_60 (by decide) ?_
        have e2 : mnRu (loudI r w f f0 ti ro n st no) ru = ru + 1 := if_neg h5
        have e3 : mnSi (loudI r w f f0 ti ro n st no) si = 0 := if_neg h5
        have e5 : mnIs (loudI r w f f0 ti ro n st no) = 1 := if_neg h5
        have e4 : mnSp (loudI r w f f0 ti ro n st no) si mo sp = sp := if_neg h5
        have e1 : mnSt (loudI r w f f0 ti ro n st no) ru st = st - 1 := (if_neg h5).trans ((if_pos h40).trans (if_neg h47))
        refine Y_sub (lv' := [(2, .int 1), (1, .ref (a 0)), (0, .ref (b 0))]) [0, 2, 1] rfl ?_
        refine Y_bl (bl' := [stC S n p a ti ro db (mnSt (loudI r w f f0 ti ro n st no) ru st) no (mnRu (loudI r w f f0 ti ro n st no) ru) (mnSi (loudI r w f f0 ti ro n st no) si) (mnSp (loudI r w f f0 ti ro n st no) si mo sp) pa, bnC S K n p b ra rb w f mo r, rwC S n ra f0 g0, rwC S p rb f1 g1]) (by rw [e1, e2, e3, e4]; rfl) ?_
        rw [← e5]
        exact k96
