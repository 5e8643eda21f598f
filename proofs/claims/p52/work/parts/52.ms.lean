theorem mi_e {T : Tw} {b : Bl} {k : Nat} (h : ¬ k = 15) : mi T b k = mi0 T b k := if_neg h
/-- so many minutes -/
def itM (T : Tw) : Nat → Bl → Bl
  | 0, b => b
  | n + 1, b => itM T n (mi T b)
