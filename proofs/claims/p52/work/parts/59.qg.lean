def frm (T : Tw) (p i : Nat) : Int32 := if p ≤ i then 0 else if T 3 i = 0 then bit1 i else if T 3 i ≤ nI p - 1 then 0 else bit1 i
