/-- what is told at the start -/
def N0 (k : Nat) : Nat := if k < 34 then 0 else if k < 40 then k - 34 else if k = 42 then 1 else if k = 43 then 2 else 0
theorem Rel0 : Rel PKd h0 := by
  refine ⟨N0, ⟨by decide, by decide, by decide⟩, ?_, ?_, ?_, ?_, ?_, ?_, ?_⟩
  · have q : ∀ k : Fin 44, h0.1 (1 + (lc k.1).1) (lc k.1).2 = nI (N0 k.1) := by decide
    exact fun k hk => q ⟨k, hk⟩
  · have q : ∀ k : Fin 44, h0.1 109 k.1 = nI (N0 k.1) := by decide
    exact fun k hk => q ⟨k, hk⟩
  · exact ⟨rfl, Or.inl rfl⟩
  · exact ⟨0, by decide, rfl, rfl, fun i hi => absurd hi (Nat.not_lt_zero i)⟩
  · exact ⟨0, by decide, rfl, rfl, fun i hi => absurd hi (Nat.not_lt_zero i)⟩
  · have q : ∀ r : Fin 4, h0.1 106 r.1 = -1 ∧ h0.1 135 r.1 = -1 := by decide
    exact fun r hr => Or.inl (q ⟨r, hr⟩)
  · exact Or.inl ⟨rfl, rfl⟩
theorem law_pure (xs : Nat → Int32) (L : Nat) (hL : L ≤ 2560) : lp (F := Int32 → Hp → Option Unit) (fun _ _ => none) (f_law_18 xs L) 1000 0 h0 = some () :=
  law_pure_open (Rel := Rel PKd) Rel0 op_vote op_votes op_seats op_least op_join op_bar op_way op_tell (op_feed PKd_ok) (op_clear PKd_ok) (op_read PKd_ok) op_in (op_house PKd_ok) (op_list PKd_ok) (op_given PKd_ok) (op_tie PKd_ok) (op_differ PKd_ok) (op_loses PKd_ok) (op_loser PKd_ok) op_price (op_span PKd_ok) (op_quota PKd_ok) (op_alike PKd_ok) (op_would PKd_ok) (op_needs PKd_ok) (op_spell PKd_ok) op_paper op_solve op_cell op_bound op_judge op_moved op_spellPlan op_told (op_row PKd_ok) (op_set PKd_ok) op_get op_lay (op_image PKd_ok) op_undo xs L hL
