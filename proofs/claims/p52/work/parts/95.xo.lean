def opA (k : Nat) : Nat := if k = 0 then 2 else if k = 1 then 3 else 4
def opC (k : Nat) : Int32 := if k = 0 then 0 else if k = 1 then 3 else 5
abbrev Rs : Type := Bool × Nat × List Int32
def lpR (f : Nat → List Int32 → Rs) (t : Nat → Int32) (e k : Nat) : Nat → Nat → List Int32 → Rs
  | 0, p, M => (false, p, M)
  | m + 1, p, M => if amO (opA k) (atP t e p) < 0 then (true, p, M) else if (f (p + 1) M).1 = true then (if k = 0 then (true, (f (p + 1) M).2.1, (2000 + amO (opA k) (atP t e p) + opC k) :: (f (p + 1) M).2.2) else lpR f t e k m (f (p + 1) M).2.1 ((2000 + amO (opA k) (atP t e p) + opC k) :: (f (p + 1) M).2.2)) else (false, (f (p + 1) M).2.1, (f (p + 1) M).2.2)
def rD (t : Nat → Int32) (e : Nat) : Nat → Nat → Nat → Nat → List Int32 → Rs
  | 0, _, p, _, M => (false, p, M)
  | D + 1, k, p, d, M =>
    if k = 4 then
      (if atP t e p = 45 then ((rD t e D 4 (p + 1) d M).1, (rD t e D 4 (p + 1) d M).2.1, 3000 :: (rD t e D 4 (p + 1) d M).2.2)
      else if dgP t e p then (true, p + cntP t e 3 p, valP t e 3 p 0 :: M)
      else if ¬ amS 0 (atP t e p) < 0 then (true, p + 1, (1000 + amS 0 (atP t e p)) :: M)
      else if d = 4 ∨ ¬ atP t e p = 40 then (false, p, M)
      else if (rD t e D 0 (p + 1) (d + 1) M).1 = true then
        (if atP t e (rD t e D 0 (p + 1) (d + 1) M).2.1 = 41 then (true, (rD t e D 0 (p + 1) (d + 1) M).2.1 + 1, (rD t e D 0 (p + 1) (d + 1) M).2.2) else (false, (rD t e D 0 (p + 1) (d + 1) M).2.1, (rD t e D 0 (p + 1) (d + 1) M).2.2))
      else (false, (rD t e D 0 (p + 1) (d + 1) M).2.1, (rD t e D 0 (p + 1) (d + 1) M).2.2))
    else if k = 3 then rD t e D 4 p d M
    else if (rD t e D (k + 1) p d M).1 = true then lpR (fun p M => rD t e D (k + 1) p d M) t e k 41 (rD t e D (k + 1) p d M).2.1 (rD t e D (k + 1) p d M).2.2
    else (false, (rD t e D (k + 1) p d M).2.1, (rD t e D (k + 1) p d M).2.2)
theorem am_lt {t : Nat → Int32} {e p a : Nat} (ha : a < 6) (h : ¬ amS a (atP t e p) < 0) : p < e := by
  by_cases c : p < e
  · exact c
  · have e1 : atP t e p = -1 := if_neg c
    have := amP_none (chS a) (atP t e p) (strL a) 0 (fun k _ hk => by rw [e1]; exact ((chS_ok a ha).2 k (by omega)).2)
    unfold amS at h
    rw [this] at h
    exact absurd (by decide) h
theorem am_ltO {t : Nat → Int32} {e p a : Nat} (h : ¬ amO a (atP t e p) < 0) : p < e := by
  by_cases c : p < e
  · exact c
  · have e1 : atP t e p = -1 := if_neg c
    rw [e1] at h
    exact absurd (amO_m1 a) h
