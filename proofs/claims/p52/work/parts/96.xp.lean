-- ===== a rule's text: the model, as a whole =====
def wU (t : Nat → Int32) (n : Nat) : Rs := if n = 0 then (true, 0, []) else rD t (min n 40) 100 0 0 0 []
def wtU (t : Nat → Int32) (n : Nat) : Int32 := ftP n 40 (wU t n).2.1 ((wU t n).1 = true)
