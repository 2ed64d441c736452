theorem law_pure (xs : Nat → Int32) (L : Nat) (hL : L ≤ 2560) : lp (F := Int32 → Hp → Option Unit) (fun _ _ => none) (f_law_18 xs L) 1000 0 h0 = some () := by
  sorry
