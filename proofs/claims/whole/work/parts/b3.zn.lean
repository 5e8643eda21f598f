-- ===== the state both begin in =====
theorem w0_z {a : Nat} (h : i0L.getD a i0F = i0F) (k : Nat) : gI w0 a k = 0 := by
  show i0L.getD a i0F k = 0
  rw [h]
  rfl
theorem w0_okL : okL w0 12 := ⟨0, w0_z rfl 1, ⟨by decide, fun k hk => absurd hk (by omega), fun k hk => absurd hk (by omega), fun k hk => absurd hk (by omega)⟩, fun k hk => absurd hk (by omega)⟩
theorem w0_rol {a p k : Nat} (h : i0L.getD p i0F = i0F) : rol w0 a p k = 0 := by
  unfold rol
  rw [w0_z h k]
  split
  · rfl
  · split <;> rfl
theorem w0_tw : okTw (tC w0 5) 0 0 0 := by
  have e0 : ∀ k, tC w0 5 0 k = 0 := fun k => w0_rol (a := 6) (p := 7) rfl
  have e1 : ∀ k, tC w0 5 1 k = 0 := fun k => w0_rol (a := 6) (p := 8) rfl
  have e2 : ∀ k, tC w0 5 2 k = 0 := fun k => w0_rol (a := 9) (p := 10) rfl
  have e3 : ∀ k, tC w0 5 3 k = 0 := fun k => w0_rol (a := 9) (p := 11) rfl
  exact ⟨by decide, by decide, w0_z rfl 2, w0_z rfl 2, w0_z (a := 12) rfl 1, ⟨by decide, fun k hk => absurd hk (by omega), fun k hk => absurd hk (by omega), fun k hk => absurd hk (by omega)⟩, fun k _ => ⟨e0 k, e1 k⟩, fun k _ => ⟨e2 k, e3 k⟩, fun k => ⟨0, by decide, e1 k⟩, fun k => ⟨0, by decide, e3 k⟩, ⟨2, by decide, rfl⟩⟩
theorem w0_b (k : Nat) (hk : k < 16) : bC w0 23 k = if k = 9 then 50 else 0 := by
  match k, hk with
  | 0, _ => rfl
  | 1, _ => rfl
  | 2, _ => rfl
  | 3, _ => rfl
  | 4, _ => rfl
  | 5, _ => rfl
  | 6, _ => rfl
  | 7, _ => rfl
  | 8, _ => rfl
  | 9, _ => rfl
  | 10, _ => rfl
  | 11, _ => rfl
  | 12, _ => rfl
  | 13, _ => rfl
  | 14, _ => rfl
  | 15, _ => rfl
  | k + 16, h => exact absurd h (by omega)
theorem w0_m (k : Nat) (hk : k < 16) : gI w0 95 k = if k = 9 then 50 else 0 := by
  revert k
  decide +kernel
theorem w0_rM : rM w0 95 = bC w0 23 := by
  funext k
  unfold rM
  by_cases hk : k < 16
  · rw [if_pos hk, w0_m k hk, w0_b k hk]
  · rw [if_neg hk]
    unfold bC
    rw [if_neg (by omega), if_neg hk]
theorem w0_bl : BlI (bC w0 23) 0 0 0 := by
  have e8 : bC w0 23 8 = 0 := w0_b 8 (by decide)
  have e9 : bC w0 23 9 = 50 := w0_b 9 (by decide)
  refine ⟨⟨fun k _ hk => ⟨by rw [w0_b k (by omega), if_neg (by omega)], by rw [e8]; exact (by decide +kernel : ∀ k, k < 8 → bt 0 k = 0) k hk⟩, by rw [e9]; decide⟩, ⟨0, by decide, by decide, e8⟩, by rw [e9]; decide, ⟨0, by decide, w0_b 15 (by decide)⟩, ⟨0, Nat.le_refl _, w0_b 12 (by decide)⟩⟩
theorem w0_Inv : Inv w0 0 := by
  refine ⟨tC w0 5, bC w0 23, 0, 0, 0, [], fun _ => 0, 0, [], 0, fun _ _ => 0, fun _ => none, ⟨⟨.inl rfl, by decide, w0_okL⟩, ⟨by decide, by decide⟩, rfl, rfl, w0_z rfl 2, w0_z rfl 2, ⟨0, by decide, w0_z rfl 1, by decide, w0_z rfl 2, fun i hi => absurd hi (Nat.not_lt_zero i)⟩, ⟨w0_z rfl 1, by decide, fun k hk => absurd hk (Nat.not_lt_zero k)⟩, ⟨w0_z rfl 1, fun k hk => absurd hk (Nat.not_lt_zero k)⟩, ⟨w0_z rfl 3, by decide, fun k hk => absurd hk (Nat.not_lt_zero k)⟩, ⟨0, by decide, w0_z rfl 10, fun i hi => ⟨⟨fun _ => rfl, fun _ => (by decide +kernel : ∀ i, i < 3 → bt (nI 0) i = 0) i hi⟩, fun b h => by cases h⟩⟩⟩, ⟨⟨w0_z rfl 3, w0_z rfl 4, by decide +kernel, by decide +kernel, by decide +kernel, fun k hk => absurd hk (Nat.not_lt_zero k), fun k hk => absurd hk (Nat.not_lt_zero k), w0_z rfl 22, fun k hk => absurd hk (Nat.not_lt_zero k)⟩, w0_rM, ⟨by decide, w0_z rfl 26, fun i hi => absurd hi (Nat.not_lt_zero i)⟩, ⟨w0_z rfl 14, by decide, fun k hk => absurd hk (Nat.not_lt_zero k)⟩, ⟨w0_z rfl 1, fun k hk => absurd hk (Nat.not_lt_zero k)⟩, ⟨w0_z rfl 37, by decide, fun k hk => absurd hk (Nat.not_lt_zero k)⟩, ⟨0, Nat.le_refl _, w0_z rfl 5, fun i hi => ⟨⟨0, Nat.le_refl _, w0_z rfl i, ⟨fun _ => .inl (w0_z rfl i), fun _ => rfl⟩⟩, fun b h => by cases h⟩⟩⟩, ⟨w0_tw, w0_bl, fun x hx => absurd hx List.not_mem_nil, fun i x h => (by cases h), fun i hi => absurd hi (Nat.not_lt_zero i), Nat.zero_le _, fun k hk => absurd hk (Nat.not_lt_zero k)⟩⟩
