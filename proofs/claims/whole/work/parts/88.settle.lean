def C8 (N : Nat → Nat) (h : Hp) : Prop := h.1 56 4 = 0 ∧ h.1 56 5 = ocN N ∧ (canP N = true → h.1 67 2 = bits6 (isInN N) ∧ (∀ p, p < 6 → h.1 77 p = nI (D0 N p)) ∧ h.1 58 0 = bits4 (hasSeat N) ∧ h.1 58 1 = bits6 (isInN N) ∧ ∀ c, c < 24 → h.1 57 c = nI ((sol N).2 c))
def C9 (N : Nat → Nat) (h : Hp) : Prop := h.1 108 3 = 1 ∧ h.1 108 4 = ocN N ∧ (canP N = true → ∀ c, c < 24 → h.1 131 c = nI ((sol N).2 c))
def PKd (N : Nat → Nat) (h : Hp) : Prop := (h.1 56 4 = 1 ∨ C8 N h) ∧ (h.1 108 3 = 0 ∨ C9 N h)
theorem PKd_ok : PKok PKd := by
  intro N h h' e1 e2 e3 e4 e5 e6 e7 e8 e9 e10 p
  unfold PKd C8 C9
  rw [e1, e2, e3, e4, e5, e6, e7, e8, e9, e10]
  exact p
theorem RPl.s {N : Nat → Nat} {h : Hp} (r : RPl PKd N h) : PKd N h := by
  rcases r with ⟨a, b⟩ | c
  · exact ⟨Or.inl a, Or.inl b⟩
  · exact c
theorem hasP8 {w : Nat} (hw : w ≤ 6) (h : Hp) : f_X2_hasPlans (nI w) h = some (if (decide (w = 0) || decide (w = 1) || decide (w = 2) || decide (w = 5)) = true then 1 else 0, h) := by
  rcases way_cases hw with rfl | rfl | rfl | rfl | rfl | rfl | rfl <;> rfl
theorem settle8 {N : Nat → Nat} (v : Vn N) {h : Hp} (a : Pc h 1 N) (hst : h.1 56 4 = 1 ∨ C8 N h) : ∃ b, f_X2_settle 56 1 h = some (ocN N, b) ∧ C8 N b := by
  have hw := v.w
  have hsA := seatsA_le v
  rcases hst with st | c8
  · have e70 : ∀ (h1 : Hp) (y : Int32), f_X2_settle_70 56 y 56 h1 = some (y, sI (sI h1 56 5 y) 56 4 0) := fun h1 y => by
      unfold f_X2_settle_70 f_X2_settle_78
      dsimp only [lt]
      rw [sI1, if_pos rfl, if_neg (by decide), sI1, if_pos rfl, if_pos rfl]
    have bad : canP N = false → ∀ h1 : Hp, ∃ b, f_X2_settle_53 56 1 h1 = some (ocN N, b) ∧ C8 N b := fun hc h1 => by
      have eo : ocN N = -3 := by unfold ocN; rw [if_neg (by rw [hc]; decide)]
      unfold f_X2_settle_53 f_X2_settle_54
      rw [if_pos rfl, e70, eo]
      refine ⟨_, rfl, by rw [sI1, if_pos rfl, if_pos rfl], by rw [eo, sI1, if_pos rfl, if_neg (by decide), sI1, if_pos rfl, if_pos rfl], fun z => by rw [hc] at z; cases z⟩
    have ew : h.1 1 5 = nI (N 41) := a 41 (by decide)
    unfold f_X2_settle
    rw [st, if_neg one_ne, seats8 a, Option.bind_some]
    dsimp only
    rw [ew, hasP8 hw, Option.bind_some]
    dsimp only
    by_cases hp : (decide (N 41 = 0) || decide (N 41 = 1) || decide (N 41 = 2) || decide (N 41 = 5)) = true
    · rw [if_neg (by rw [if_pos hp]; exact one_ne)]
      by_cases h1 : 1 ≤ seatsA N
      · rw [if_neg (show ¬ nI (seatsA N) < 1 from nI_nlt (b := 1) h1 (by omega))]
        by_cases h60 : seatsA N ≤ 60
        · rw [if_neg (show ¬ (60 : Int32) < nI (seatsA N) from nI_nlt (a := 60) h60 (by decide)), ew]
          obtain ⟨b, e, f, c⟩ := fillB8 v hw (G := 67) (p := 1) (by decide) hs67 a h60
          rw [show f_X1_fill (56 + 11) 1 (nI (N 41)) (nI (seatsA N)) h = _ from e, Option.bind_some]
          dsimp only
          by_cases ok : okHb N (N 41) (seatsA N) = true
          · have hc : canP N = true := by unfold canP; rw [hp, ok, decide_eq_true h1, decide_eq_true h60]; rfl
            obtain ⟨b2, e2, c1, c2, c3, c4⟩ := solveF8 v hc (h := b) (f.pc a (fun j hj => ⟨by omega, by simp⟩)) (c ok).1 (c ok).2.2
            have eo : ocN N = (sol N).1 := by unfold ocN; rw [if_pos hc]
            rw [if_neg (by rw [if_pos ok]; exact one_ne)]
            unfold f_X2_settle_54
            rw [if_neg one_ne, e2, Option.bind_some, e70, c1, ← eo]
            refine ⟨_, rfl, by rw [sI1, if_pos rfl, if_pos rfl], by rw [sI1, if_pos rfl, if_neg (by decide), sI1, if_pos rfl, if_pos rfl], fun _ => ?_⟩
            rw [sI_row _ _ _ (by decide), sI_row _ _ _ (by decide), sI_row _ _ _ (by decide), sI_row _ _ _ (by decide), sI_row _ _ _ (by decide), sI_row _ _ _ (by decide), sI_row _ _ _ (by decide), sI_row _ _ _ (by decide), c4 67 (by omega), c4 77 (by omega)]
            exact ⟨(c ok).1, (c ok).2.2, c3.1, c3.2, c2⟩
          · rw [if_pos (if_neg ok)]
            exact bad (by unfold canP; rw [show okHb N (N 41) (seatsA N) = false by simpa using ok, Bool.and_false, Bool.and_false, Bool.and_false]) b
        · rw [if_pos (show (60 : Int32) < nI (seatsA N) from nI_lt (a := 60) (by omega) (by omega))]
          exact bad (by unfold canP; rw [decide_eq_false h60, Bool.false_and, Bool.and_false, Bool.and_false]) h
      · rw [if_pos (show nI (seatsA N) < 1 from nI_lt (b := 1) (by omega) (by decide))]
        exact bad (by unfold canP; rw [decide_eq_false h1, Bool.false_and, Bool.and_false]) h
    · rw [if_pos (if_neg hp)]
      exact bad (by unfold canP; rw [show (decide (N 41 = 0) || decide (N 41 = 1) || decide (N 41 = 2) || decide (N 41 = 5)) = false by simpa using hp, Bool.false_and]) h
  · refine ⟨h, ?_, c8⟩
    unfold f_X2_settle f_X2_settle_78
    rw [if_pos c8.1, c8.2.1]
theorem solves9 {N : Nat → Nat} (v : Vn N) {h : Hp} (b : Po h 109 N) (hst : h.1 108 3 = 0 ∨ C9 N h) : ∃ o, f_X9_solves 108 h = some (ocN N, o) ∧ C9 N o := by
  rcases hst with st | c9
  · obtain ⟨o, e, q1, q2⟩ := solveF9 v b
    refine ⟨sI (sI o.2 108 4 (ocN N)) 108 3 1, ?_, by rw [sI1, if_pos rfl, if_pos rfl], by rw [sI1, if_pos rfl, if_neg (by decide), sI1, if_pos rfl, if_pos rfl], fun hc => by rw [sI_row _ _ _ (by decide), sI_row _ _ _ (by decide)]; exact q2 hc⟩
    unfold f_X9_solves f_X9_solves_20
    rw [if_pos st, e, Option.bind_some, q1]
    dsimp only [lt]
    rw [sI1, if_pos rfl, if_neg (by decide), sI1, if_pos rfl, if_pos rfl]
  · refine ⟨h, ?_, c9⟩
    unfold f_X9_solves f_X9_solves_20
    rw [c9.1, if_neg one_ne, c9.2.1]
abbrev SR : List Nat := [113, 114, 115, 116, 117, 118, 119, 120, 121, 122, 123, 124, 125, 126, 128, 129, 130, 131, 132, 133]
abbrev SC : List Nat := [3, 4, 14, 15, 24, 25, 31, 32, 35, 38]
/-- settling keeps the relation -/
theorem settleR {N : Nat → Nat} {h : Hp} (hR : RelN PKd N h) : ∃ b, f_X2_settle 56 1 h = some (ocN N, b) ∧ C8 N b ∧ RelN PKd N b := by
  obtain ⟨p1, p2⟩ := hR.2.2.2.2.2.2.2.s
  obtain ⟨b, e, c⟩ := settle8 hR.1 hR.2.1 p1
  have f := mf_X2_settle e
  dsimp only at f
  refine ⟨b, e, c, hR.of (KeepL.ofFc f (by decide) (by decide)) (hR.2.2.2.2.2.1.l (KeepL.ofFc f (by decide) (by decide))) (hR.2.2.2.2.2.2.1.l (KeepL.ofFc f (by decide) (by decide))) (Or.inr ⟨Or.inr c, ?_⟩)⟩
  unfold C9
  rw [(f 108 (by omega) (by simp)).1, (f 131 (by omega) (by simp)).1]
  exact p2
theorem C8.x {N : Nat → Nat} {h h' : Hp} (c : C8 N h) (e : ∀ r, r = 56 ∨ r = 57 ∨ r = 58 ∨ r = 67 ∨ r = 77 → h'.1 r = h.1 r) : C8 N h' := by
  unfold C8
  rw [e 56 (by omega), e 57 (by omega), e 58 (by omega), e 67 (by omega), e 77 (by omega)]
  exact c
theorem solvesR {N : Nat → Nat} {h : Hp} (hR : RelN PKd N h) : ∃ o, f_X9_solves 108 h = some (ocN N, o) ∧ C9 N o ∧ RelN PKd N o ∧ (C8 N h → C8 N o) := by
  obtain ⟨p1, p2⟩ := hR.2.2.2.2.2.2.2.s
  obtain ⟨o, e, c⟩ := solves9 hR.1 hR.2.2.1 p2
  have f : Fx SR SC h o := mf_X9_solves e
  have ex : ∀ r, r = 56 ∨ r = 57 ∨ r = 58 ∨ r = 67 ∨ r = 77 → o.1 r = h.1 r := fun r hr => by
    rcases hr with rfl | rfl | rfl | rfl | rfl <;> exact f.1 _ (by decide) (by decide)
  refine ⟨o, e, c, hR.of (KeepL.ofFx f (by decide) (by decide)) (hR.2.2.2.2.2.1.l (KeepL.ofFx f (by decide) (by decide))) (hR.2.2.2.2.2.2.1.l (KeepL.ofFx f (by decide) (by decide))) (Or.inr ⟨?_, Or.inr c⟩), fun c8 => c8.x ex⟩
  rcases p1 with p1 | p1
  · exact Or.inl (by rw [ex 56 (by omega)]; exact p1)
  · exact Or.inr (p1.x ex)
theorem oc_cases {N : Nat → Nat} (v : Vn N) : (ocN N = -3 ∧ canP N = false) ∨ (ocN N = -6 ∧ canP N = true) ∨ (canP N = true ∧ ∃ e, e ≤ 200 ∧ ocN N = nI e) := by
  cases hc : canP N with
  | false => exact Or.inl ⟨by unfold ocN; rw [if_neg (by rw [hc]; decide)], rfl⟩
  | true =>
    have eo : ocN N = (sol N).1 := by unfold ocN; rw [if_pos hc]
    rcases (sol_ok v).1 with q | q
    · exact Or.inr (Or.inl ⟨by rw [eo]; exact q, rfl⟩)
    · rw [← eo] at q
      exact Or.inr (Or.inr ⟨rfl, q⟩)
theorem oc_pos {N : Nat → Nat} (v : Vn N) (h : 0 ≤ ocN N) : canP N = true := by
  rcases oc_cases v with ⟨q, -⟩ | ⟨q, r⟩ | ⟨r, -⟩
  · rw [q] at h
    exact absurd h (by decide)
  · exact r
  · exact r
theorem op_solve : Op (Rel PKd) (fun h => f_X8_solve 0 h) (fun h => f_X9_solve 108 h) := by
  intro h ⟨N, hR⟩
  obtain ⟨b, e, c, R1⟩ := settleR hR
  obtain ⟨o, g, d, R2, -⟩ := solvesR R1
  refine ⟨ocN N, b, o, ?_, ?_, ⟨N, R2⟩⟩
  · dsimp only
    unfold f_X8_solve
    rw [show f_X2_settle (0 + 56) (0 + 1) h = _ from e, Option.bind_some]
  · dsimp only
    unfold f_X9_solve
    rw [g, Option.bind_some]
theorem op_cell (z1 z2 : Int32) : Op (Rel PKd) (fun h => f_X8_cell 0 z1 z2 h) (fun h => f_X9_cell 108 z1 z2 h) := by
  intro h ⟨N, hR⟩
  have v := hR.1
  rcases rng z1 3 (by decide) with ⟨w, hw, rfl⟩ | o1
  · rcases rng z2 5 (by decide) with ⟨p, hp, rfl⟩ | o2
    · obtain ⟨b, e, c, R1⟩ := settleR hR
      obtain ⟨o, g, d, R2, -⟩ := solvesR R1
      by_cases hz : 0 ≤ ocN N
      · have hc := oc_pos v hz
        refine ⟨nI ((sol N).2 (6 * w + p)), b, o, ?_, ?_, ⟨N, R2⟩⟩
        · dsimp only
          unfold f_X8_cell
          rw [w8i_3 _ hw, Option.bind_some, if_neg one_ne, w8i_5 _ hp, Option.bind_some, if_neg one_ne, show f_X2_settle (0 + 56) (0 + 1) h = _ from e, Option.bind_some, if_pos hz, cellw, Option.bind_some]
          dsimp only
          rw [if_pos (ix24 (by omega)), nI_clamp (by omega), show b.1 (0 + 56 + 1) (6 * w + p) = _ from (c.2.2 hc).2.2.2.2 _ (by omega)]
        · dsimp only
          unfold f_X9_cell
          rw [isWardi _ hw, Option.bind_some, if_neg one_ne, isPartyi _ hp, Option.bind_some, if_neg one_ne, g, Option.bind_some, if_pos hz, c6, if_pos (ix24 (by omega)), nI_clamp (by omega), show o.1 (108 + 23) (6 * w + p) = _ from d.2.2 hc _ (by omega)]
      · refine ⟨ocN N, b, o, ?_, ?_, ⟨N, R2⟩⟩
        · dsimp only
          unfold f_X8_cell
          rw [w8i_3 _ hw, Option.bind_some, if_neg one_ne, w8i_5 _ hp, Option.bind_some, if_neg one_ne, show f_X2_settle (0 + 56) (0 + 1) h = _ from e, Option.bind_some, if_neg hz]
        · dsimp only
          unfold f_X9_cell
          rw [isWardi _ hw, Option.bind_some, if_neg one_ne, isPartyi _ hp, Option.bind_some, if_neg one_ne, g, Option.bind_some, if_neg hz]
    · refine same_op (r := -1) ⟨N, hR⟩ ?_ ?_
      · unfold f_X8_cell
        rw [w8i_3 _ hw, Option.bind_some, if_neg one_ne, w8o_5 _ o2, Option.bind_some, if_pos rfl]
      · unfold f_X9_cell
        rw [isWardi _ hw, Option.bind_some, if_neg one_ne, isPartyo _ o2, Option.bind_some, if_pos rfl]
  · refine same_op (r := -1) ⟨N, hR⟩ ?_ ?_
    · unfold f_X8_cell
      rw [w8o_3 _ o1, Option.bind_some, if_pos rfl]
    · unfold f_X9_cell
      rw [isWardo _ o1, Option.bind_some, if_pos rfl]
