section RF
variable {F : Nat} {w : Wd} {a : Nat} {t : Nat → Int32} {n : Nat} {C W : List Int32} {d : Nat} {m : Int32} {g : Nat}
def rdK (F : Nat) (a1 : Nat) (x8 : Int32) : Wd → Option (Int32 × Wd) := (fun w  => (if (gI w 1 1) ≤ 40 then (if x8 ≤ 0 then K_X2_read_123 F a1  w  else (if (gI w a1 9) = 0 then some (x8, w) else (if (gI w a1 6) ≤ 0 then K_X2_read_123 F a1  w  else some (x8, w)))) else some (40, w)))
theorem rdK_no {hb : Bool} (hx : TxC w t n) (h : LsC w a C W d m g hb) (h0 : 0 < min n 40) (hd : d < 100) (hno : hb = false ∨ 0 < d) : rdK F a (nI (min n 40)) w = some (nI (min n 40), w) := by
  have hn := hx.2.1
  unfold rdK
  rw [hx.1]
  by_cases c : n ≤ 40
  · rw [if_pos (show nI n ≤ 40 from nI_le (a := n) (b := 40) c (by decide)), if_neg (nI_nle h0 (by omega)), h.2.2.2.2.2.2.2]
    cases hb with
    | false => rw [if_pos (show (if (false = true) then (1 : Int32) else 0) = 0 from rfl)]
    | true =>
      have hd0 : 0 < d := hno.elim (fun z => absurd z (by decide)) (fun z => z)
      rw [if_neg (show ¬ (if (true = true) then (1 : Int32) else 0) = 0 from by decide), h.2.2.2.2.1, if_neg (nI_nle hd0 (by omega))]
  · rw [if_neg (show ¬ nI n ≤ 40 from nI_ge (a := 40) (b := n) (by omega) (by omega)), show min n 40 = 40 from by omega]; rfl
theorem rd_end (K : Wd → Option (Int32 × Wd)) (f e : Nat) : L_X2_read_42 F a (nI e) K (f + 1) w (nI e) = K w := by
  rw [L_X2_read_42, if_pos (Int32.le_refl _)]
/-- behind a thing: nothing that can stand here -/
theorem rd_refuse (hx : TxC w t n) {e : Nat} (he : e ≤ n) (hs : ∀ q, q < e → ∃ c : Nat, c < 256 ∧ atP t e q = nI c) (h : LsC w a C W d m g true) (hC : C.length ≤ 40) (hl : C.length + W.length < 40) (hF : 100 ≤ F) (hg : g < 100) (K : Wd → Option (Int32 × Wd)) (f p : Nat) (hp : p < e) (k1 : dgP t e p → ¬ (1 ≤ g ∧ g ≤ 2)) (k2 : amO 3 (atP t e p) < 0) (k3 : amO 4 (atP t e p) < 0) (k4 : ¬ amO 2 (atP t e p) < 0 → ¬ bt m d = 0) (k5 : atP t e p = 41 → d = 0) : ∃ w2, L_X2_read_42 F a (nI e) K (f + 1) w (nI p) = some (nI p, w2) := by
  rw [rd_b hx he h K f p hp, if_pos rfl]
  have no : ∀ o : Option (Int32 × Wd), (∃ w2, o = some (0, w2)) → ∃ w2, bnd o (fun x16 w15 => if x16 = 0 then some (nI p, w15) else L_X2_read_42 F a (nI e) K f w15 (nI (p + 1))) = some (nI p, w2) := fun o ho => by
    obtain ⟨w2, e1⟩ := ho
    rw [bnd_r e1, if_pos rfl]; exact ⟨w2, rfl⟩
  refine no _ ?_
  by_cases dg : dgP t e p
  · obtain ⟨c, c1, c2, c3⟩ := dg_n dg
    rw [c3]
    exact ⟨w, (go_digit h c1 c2 hC hg).2 (k1 dg)⟩
  have hnd : atP t e p < 48 ∨ 57 < atP t e p := by
    by_cases z : atP t e p < 48
    · exact .inl z
    · by_cases y : 57 < atP t e p
      · exact .inr y
      · exact absurd ⟨z, y⟩ dg
  by_cases x1 : atP t e p = 41
  · have := k5 x1
    subst this
    rw [x1]; exact go_closeN h
  by_cases cm : atP t e p = 60 ∨ atP t e p = 61 ∨ atP t e p = 62
  · refine (go_cmp hF h hl _ cm).2 (k4 ?_)
    rcases cm with z | z | z <;> rw [z] <;> decide
  refine go_other _ hnd x1 (fun z => ?_) (fun z => ?_) (fun z => ?_) (fun z => ?_) (fun z => cm (.inl z)) (fun z => cm (.inr (.inl z))) (fun z => cm (.inr (.inr z)))
  · rw [z] at k3; exact absurd k3 (by decide)
  · rw [z] at k2; exact absurd k2 (by decide)
  · rw [z] at k2; exact absurd k2 (by decide)
  · rw [z] at k3; exact absurd k3 (by decide)
end RF
