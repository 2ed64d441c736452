theorem ts1 (a0 : Nat) (h : Hp) : f_X9_total a0 (2 : Int32) h = some (0 + h.1 (a0+1) 2 + h.1 (a0+1) 8 + h.1 (a0+1) 14 + h.1 (a0+1) 20, h) := rfl
theorem ts2 (h : Hp) : f_X3_totalOf 1 (5 : Int32) h = some (0 + h.1 2 5 + h.1 2 11 + h.1 2 17 + h.1 2 23, h) := rfl
