/-- the answer of bound, once what is asked is in range -/
def bdN (N : Nat → Nat) (r t : Nat) (part : Int32) : Int64 := if ocN N < 0 then -9223372036854775808 else if N (24 + r) = 0 then -9223372036854775808 else if N (24 + t) = 0 then -9223372036854775808 else bG N (sol N).2 r t part 6 0 0 0
theorem oc_pos' {N : Nat → Nat} (v : Vn N) (h : ¬ ocN N < 0) : canP N = true := oc_pos v (Int32.not_lt.mp h)
theorem bound8B {N : Nat → Nat} (v : Vn N) (hc : canP N = true) {b : Hp} (a1 : Pc b 1 N) (c : C8 N b) {r t : Nat} {part : Int32} (hr : r < 4) (ht : t < 4) : f_X2_boundBetween 56 1 (nI r) (nI t) part b = some (bG N (sol N).2 r t part 6 0 0 0, b) := by
  obtain ⟨c1, c2, c3, c4, c5⟩ := c.2.2 hc
  exact bound8L v (canP_w hc).1 a1 c5 c1 (sol_ok v).2.1 (fun w p hw hp q => (sol_ok v).2.2 w p hw hp (Or.inr q)) hr ht 6 0 1000 0 0 rfl (by decide) (by decide) (by decide) (fun _ => rfl)
theorem bound8 {N : Nat → Nat} {h b : Hp} (R1 : RelN PKd N b) (c : C8 N b) (e : f_X2_settle 56 1 h = some (ocN N, b)) {r t : Nat} {part : Int32} (hr : r ≤ 3) (ht : t ≤ 3) (hne : ¬ nI r = nI t) (hp : part = 0 ∨ part = 1) : f_X8_bound 0 (nI r) (nI t) part h = some (bdN N r t part, b) := by
  have v := R1.1
  unfold f_X8_bound bdN
  rw [w8i_3 _ hr, Option.bind_some, if_neg one_ne, w8i_3 _ ht, Option.bind_some, if_neg one_ne, if_neg hne, (isPart_in h hp).2, Option.bind_some, if_neg one_ne, show f_X2_settle (0 + 56) (0 + 1) h = _ from e, Option.bind_some]
  dsimp only
  by_cases z : ocN N < 0
  · rw [if_pos z, if_pos z]
  · rw [if_neg z, if_neg z, if_pos (ix4 (by omega)), nI_clamp (by omega), show b.1 (0 + 1 + 2) r = _ from wseats8 R1.2.1 (by omega)]
    have b1 : N (24 + r) ≤ 30 := by
      have q := v.1 (24 + r) (by omega)
      unfold bd at q
      rw [if_neg (by omega), if_pos (by omega)] at q
      exact q
    have b2 : N (24 + t) ≤ 30 := by
      have q := v.1 (24 + t) (by omega)
      unfold bd at q
      rw [if_neg (by omega), if_pos (by omega)] at q
      exact q
    by_cases z1 : N (24 + r) = 0
    · rw [if_pos (by rw [z1]; rfl), if_pos z1]
    · rw [if_neg (nI_ne0 (by omega) (by omega)), if_neg z1, if_pos (ix4 (by omega)), nI_clamp (by omega), show b.1 (0 + 1 + 2) t = _ from wseats8 R1.2.1 (by omega)]
      by_cases z2 : N (24 + t) = 0
      · rw [if_pos (by rw [z2]; rfl), if_pos z2]
      · rw [if_neg (nI_ne0 (by omega) (by omega)), if_neg z2, show f_X2_boundBetween (0 + 56) (0 + 1) (nI r) (nI t) part b = _ from bound8B v (oc_pos' v z) R1.2.1 c (by omega) (by omega), Option.bind_some]
theorem bound9 {N : Nat → Nat} {h : Hp} (R1 : RelN PKd N h) {r t : Nat} {part : Int32} (hr : r ≤ 3) (ht : t ≤ 3) (hne : ¬ nI r = nI t) (hp : part = 0 ∨ part = 1) : ∃ o, f_X9_bound 108 (nI r) (nI t) part h = some (bdN N r t part, o) ∧ RelN PKd N o := by
  have v := R1.1
  obtain ⟨b, e, c, R2, -⟩ := solvesR R1
  have b1 : N (24 + r) ≤ 30 := by
    have q := v.1 (24 + r) (by omega)
    unfold bd at q
    rw [if_neg (by omega), if_pos (by omega)] at q
    exact q
  have b2 : N (24 + t) ≤ 30 := by
    have q := v.1 (24 + t) (by omega)
    unfold bd at q
    rw [if_neg (by omega), if_pos (by omega)] at q
    exact q
  have flag : ∀ (g : Hp) (x : Int32), RelN PKd N g → RelN PKd N (sI g 108 38 x) := fun g x q => q.keep PKd_ok ⟨fun k hk => sI_row _ _ _ (by
    have w : ∀ k ∈ keepRows, k ≠ 108 := by decide
    exact w k hk), fun p hp => by
    have w : ∀ p ∈ keepCells, p.1 ≠ 108 ∨ p.2 ≠ 38 := by decide
    rcases w p hp with w | w
    · rw [sI_row _ _ _ w]
    · rw [sI1]
      by_cases w1 : p.1 = 108
      · rw [if_pos w1, if_neg w, w1]
      · rw [if_neg w1]⟩
  have last : ¬ ocN N < 0 → ∃ o, lp (F := Nat → Int32 → Int32 → Int32 → Int64 → Int64 → Int32 → Hp → Option (Int64 × Hp)) (fun _ _ _ _ _ _ _ _ => none) f_X9_bound_67 1000 108 (nI r) (nI t) part 0 0 0 (sI b 108 38 0) = some (bG N (sol N).2 r t part 6 0 0 0, o) ∧ RelN PKd N o := fun z => by
    have hc := oc_pos' v z
    obtain ⟨o, eo, oo⟩ := bound9L (r := r) (t := t) (part := part) v (canP_w hc).1 (sol_ok v).2.1 (by omega) (by omega) 6 0 1000 0 0 (sI b 108 38 0) (R2.2.2.1.keep (sI_row _ _ _ (by decide))) (fun k hk => by rw [sI_row _ _ _ (by decide)]; exact c.2.2 hc k hk) rfl (by decide) (by decide) (by decide)
    rw [if_pos (by rw [sI1, if_pos rfl, if_pos rfl])] at eo
    refine ⟨o, eo, ?_⟩
    rcases oo with oo | oo
    · rw [oo]
      exact flag _ _ R2
    · rw [oo]
      exact flag _ _ (flag _ _ R2)
  generalize hl : lp (F := Nat → Int32 → Int32 → Int32 → Int64 → Int64 → Int32 → Hp → Option (Int64 × Hp)) (fun _ _ _ _ _ _ _ _ => none) f_X9_bound_67 1000 = LL at last
  unfold f_X9_bound bdN
  rw [hl, isWardi _ hr, Option.bind_some, if_neg one_ne, isWardi _ ht, Option.bind_some, if_neg one_ne, if_neg hne, (isPart_in h hp).1, Option.bind_some, if_neg one_ne, e, Option.bind_some]
  dsimp only
  by_cases z : ocN N < 0
  · rw [if_pos z, if_pos z]
    exact ⟨b, rfl, R2⟩
  · rw [if_neg z, if_neg z, seatsOf9 R2.2.2.1 (by omega), Option.bind_some]
    dsimp only
    by_cases z1 : N (24 + r) = 0
    · rw [if_pos (show nI (N (24 + r)) = 0 by rw [z1]; rfl), if_pos z1]
      exact ⟨b, rfl, R2⟩
    · rw [if_neg (show ¬ nI (N (24 + r)) = 0 from nI_ne0 (by omega) (by omega)), if_neg z1, seatsOf9 R2.2.2.1 (by omega), Option.bind_some]
      dsimp only
      by_cases z2 : N (24 + t) = 0
      · rw [if_pos (show nI (N (24 + t)) = 0 by rw [z2]; rfl), if_pos z2]
        exact ⟨b, rfl, R2⟩
      · rw [if_neg (show ¬ nI (N (24 + t)) = 0 from nI_ne0 (by omega) (by omega)), if_neg z2]
        dsimp only [lt]
        exact last z
theorem op_bound (z1 z2 z3 : Int32) : Op (Rel PKd) (fun h => f_X8_bound 0 z1 z2 z3 h) (fun h => f_X9_bound 108 z1 z2 z3 h) := by
  intro h ⟨N, hR⟩
  have v := hR.1
  have nope : f_X8_bound 0 z1 z2 z3 h = some (-9223372036854775808, h) → f_X9_bound 108 z1 z2 z3 h = some (-9223372036854775808, h) → ∃ r h1 h2, (fun h => f_X8_bound 0 z1 z2 z3 h) h = some (r, h1) ∧ (fun h => f_X9_bound 108 z1 z2 z3 h) h1 = some (r, h2) ∧ Rel PKd h2 := fun e1 e2 => ⟨_, h, h, e1, e2, ⟨N, hR⟩⟩
  rcases rng z1 3 (by decide) with ⟨r, hr, rfl⟩ | o1
  · rcases rng z2 3 (by decide) with ⟨t, ht, rfl⟩ | o2
    · by_cases hne : nI r = nI t
      · refine nope ?_ ?_
        · unfold f_X8_bound
          rw [w8i_3 _ hr, Option.bind_some, if_neg one_ne, w8i_3 _ ht, Option.bind_some, if_neg one_ne, if_pos hne]
        · unfold f_X9_bound
          rw [isWardi _ hr, Option.bind_some, if_neg one_ne, isWardi _ ht, Option.bind_some, if_neg one_ne, if_pos hne]
      · by_cases hp : z3 = 0 ∨ z3 = 1
        · obtain ⟨b, e, c, R1⟩ := settleR hR
          obtain ⟨o, eo, R2⟩ := bound9 R1 hr ht hne hp
          exact ⟨_, b, o, bound8 R1 c e hr ht hne hp, eo, ⟨N, R2⟩⟩
        · refine nope ?_ ?_
          · unfold f_X8_bound
            rw [w8i_3 _ hr, Option.bind_some, if_neg one_ne, w8i_3 _ ht, Option.bind_some, if_neg one_ne, if_neg hne, (isPart_out h hp).2, Option.bind_some, if_pos rfl]
          · unfold f_X9_bound
            rw [isWardi _ hr, Option.bind_some, if_neg one_ne, isWardi _ ht, Option.bind_some, if_neg one_ne, if_neg hne, (isPart_out h hp).1, Option.bind_some, if_pos rfl]
    · refine nope ?_ ?_
      · unfold f_X8_bound
        rw [w8i_3 _ hr, Option.bind_some, if_neg one_ne, w8o_3 _ o2, Option.bind_some, if_pos rfl]
      · unfold f_X9_bound
        rw [isWardi _ hr, Option.bind_some, if_neg one_ne, isWardo _ o2, Option.bind_some, if_pos rfl]
  · refine nope ?_ ?_
    · unfold f_X8_bound
      rw [w8o_3 _ o1, Option.bind_some, if_pos rfl]
    · unfold f_X9_bound
      rw [isWardo _ o1, Option.bind_some, if_pos rfl]
