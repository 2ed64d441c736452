theorem plans48L {N : Nat → Nat} (v : Vn N) {h : Hp} (b : Po h 109 N) {D : Nat → Nat} (e124 : ∀ p, p < 6 → h.1 124 p = nI (D p)) (h31 : h.1 108 31 = 0) (h32 : h.1 108 32 = 0) : ∃ o, lp (F := Nat → Int32 → Hp → Option (Int32 × Hp)) (fun _ _ _ => none) f_X9_plans_74 1000 108 0 h = some o ∧ (o.1 = 1 ∧ Ls (hasSeat N) (isInN N) o.2 ∧ ∀ p, p < 6 → o.2.1 130 p = nI (D p)) := by
  refine lp_inv (F := Nat → Int32 → Hp → Option (Int32 × Hp)) (bot := fun _ _ _ => none) (G := f_X9_plans_74) (fun K i (h : Hp) => K 108 (nI i) h) 4 (fun i h' => Fx [128] [31] h h' ∧ h'.1 108 31 = nI (cQ (hasSeat N) i) ∧ ∀ w, w < i → hasSeat N w = true → h'.1 128 (cQ (hasSeat N) w) = nI w) _ ?_ ?_ 1000 0 h (by omega) (by omega) ⟨Fx.refl, h31, fun w hw => absurd hw (Nat.not_lt_zero w)⟩
  · rintro K i h1 hi ⟨c1, c2, c3⟩
    have b1 := c1.po b (by decide)
    have hcl := cQ_le (hasSeat N) i
    have hws := ws_le v hi
    show ∃ s', _ ∧ f_X9_plans_74 K 108 (nI i) h1 = _
    unfold f_X9_plans_74 f_X9_plans_107
    rw [if_neg (show ¬ (4 : Int32) ≤ nI i from nI_ge (b := 4) hi (by decide)), seatsOf9 b1 hi, Option.bind_some]
    dsimp only [lt]
    by_cases hs : 0 < N (24 + i)
    · have hq : hasSeat N i = true := by unfold hasSeat; simp [hs]
      rw [if_neg (nI_nle hs (by omega)), c2, if_pos (ix4 (by omega)), nI_clamp (by omega)]
      have e31 : (sI h1 (108 + 20) (cQ (hasSeat N) i) (nI i)).1 108 31 = nI (cQ (hasSeat N) i) := by rw [sI_row _ _ _ (by decide), c2]
      rw [e31, nI_1, nI_1]
      refine ⟨_, ⟨Fx_f (Fx_sI c1 rfl (by decide)) rfl (by decide), by rw [sI1, if_pos rfl, if_pos rfl, cQ_t hq], fun w hw hqw => ?_⟩, rfl⟩
      rw [sI_row _ _ _ (by decide), sI1, if_pos rfl]
      by_cases ew : w = i
      · rw [ew, if_pos rfl]
      · have := cQ_lt (Q := hasSeat N) (show w < i by omega) hqw
        rw [if_neg (by omega)]
        exact c3 w (by omega) hqw
    · have hq : hasSeat N i = false := by unfold hasSeat; simp; omega
      rw [if_pos (by rw [show N (24 + i) = 0 by omega]; decide), nI_1]
      refine ⟨h1, ⟨c1, by rw [cQ_f hq]; exact c2, fun w hw hqw => ?_⟩, rfl⟩
      by_cases ew : w = i
      · rw [ew, hq] at hqw
        cases hqw
      · exact c3 w (by omega) hqw
  · rintro K h1 ⟨c1, c2, c3⟩
    show ∃ o, f_X9_plans_74 K 108 (nI 4) h1 = some o ∧ _
    unfold f_X9_plans_74
    rw [if_pos (show (4 : Int32) ≤ nI 4 by decide)]
    have L2 := lp_inv (F := Nat → Int32 → Hp → Option (Int32 × Hp)) (bot := fun _ _ _ => none) (G := f_X9_plans_115) (fun K i (h : Hp) => K 108 (nI i) h) 6 (fun i h' => Fx [129, 130] [32] h1 h' ∧ h'.1 108 32 = nI (cQ (isInN N) i) ∧ (∀ w, w < i → isInN N w = true → h'.1 129 (cQ (isInN N) w) = nI w) ∧ ∀ p, p < i → h'.1 130 p = nI (D p)) (fun o => o.1 = 1 ∧ Ls (hasSeat N) (isInN N) o.2 ∧ ∀ p, p < 6 → o.2.1 130 p = nI (D p)) ?_ ?_ 1000 0 h1 (by omega) (by omega) ⟨Fx.refl, by rw [c1.2.2 32 (by decide)]; exact h32, fun w hw => absurd hw (Nat.not_lt_zero w), fun w hw => absurd hw (Nat.not_lt_zero w)⟩
    · exact L2
    · rintro K2 i h2 hi ⟨d1, d2, d3, d4⟩
      have hcl := cQ_le (isInN N) i
      have f2 : Fx [129, 130] [32] h1 (sI h2 130 i (nI (D i))) := Fx_sI d1 rfl (by decide)
      have b2 : Po (sI h2 130 i (nI (D i))) 109 N := f2.po (c1.po b (by decide)) (by decide)
      have r130 : ∀ p, p < i + 1 → (sI h2 130 i (nI (D i))).1 130 p = nI (D p) := fun p hp => by
        rw [sI1, if_pos rfl]
        by_cases e : p = i
        · rw [if_pos e, e]
        · rw [if_neg e]
          exact d4 p (by omega)
      show ∃ s', _ ∧ f_X9_plans_115 K2 108 (nI i) h2 = _
      unfold f_X9_plans_115 f_X9_plans_161
      rw [if_neg (ge6 hi), if_pos (ix6 hi), if_pos (ix6 hi), cl6' hi, show h2.1 (108 + 16) i = nI (D i) by rw [d1.1 (108 + 16) (by decide) (by decide), c1.1 (108 + 16) (by decide) (by decide)]; exact e124 i hi]
      dsimp only [lt]
      rw [show sI h2 (108 + 22) i (nI (D i)) = sI h2 130 i (nI (D i)) from rfl, isIn9 v b2 hi, Option.bind_some]
      dsimp only
      have e32 : (sI h2 130 i (nI (D i))).1 108 32 = nI (cQ (isInN N) i) := by rw [sI_row _ _ _ (by decide)]; exact d2
      by_cases hq : isInN N i = true
      · rw [if_neg (by rw [if_pos hq]; exact one_ne), e32, if_pos (ix6 (by omega)), cl6' (by omega)]
        have e32b : (sI (sI h2 130 i (nI (D i))) (108 + 21) (cQ (isInN N) i) (nI i)).1 108 32 = nI (cQ (isInN N) i) := by rw [sI_row _ _ _ (by decide)]; exact e32
        rw [e32b, nI_1, nI_1]
        refine ⟨_, ⟨Fx_f (Fx_sI f2 rfl (by decide)) rfl (by decide), by rw [sI1, if_pos rfl, if_pos rfl, cQ_t hq], fun w hw hqw => ?_, fun p hp => by rw [sI_row _ _ _ (by decide), sI_row _ _ _ (by decide)]; exact r130 p hp⟩, rfl⟩
        rw [sI_row _ _ _ (by decide), sI1, if_pos rfl]
        by_cases ew : w = i
        · rw [ew, if_pos rfl]
        · have := cQ_lt (Q := isInN N) (show w < i by omega) hqw
          rw [if_neg (by omega), sI_row _ _ _ (by decide)]
          exact d3 w (by omega) hqw
      · have hqf : isInN N i = false := by simpa using hq
        rw [if_pos (if_neg hq), nI_1]
        refine ⟨_, ⟨f2, by rw [cQ_f hqf]; exact e32, fun w hw hqw => ?_, r130⟩, rfl⟩
        by_cases ew : w = i
        · rw [ew] at hqw
          exact absurd hqw hq
        · rw [sI_row _ _ _ (by decide)]
          exact d3 w (by omega) hqw
    · rintro K2 h2 ⟨d1, d2, d3, d4⟩
      show ∃ o, f_X9_plans_115 K2 108 (nI 6) h2 = some o ∧ _
      unfold f_X9_plans_115
      rw [if_pos (show (6 : Int32) ≤ nI 6 by decide), if_pos isB1]
      refine ⟨_, rfl, rfl, ⟨?_, d2, fun w hw hqw => ?_, d3⟩, d4⟩
      · show h2.1 108 31 = _
        rw [d1.2.2 31 (by decide)]
        exact c2
      · show h2.1 128 _ = _
        rw [d1.1 128 (by decide) (by decide)]
        exact c3 w hw hqw
theorem plans48 {N : Nat → Nat} (v : Vn N) {h : Hp} (b : Po h 109 N) {H : Nat} (hH : H ≤ 60) : ∃ o, f_X9_plans_48 108 (nI H) h = some o ∧ ((okHb N (N 41) H = true ∧ o.1 = 1 ∧ Ls (hasSeat N) (isInN N) o.2 ∧ ∀ p, p < 6 → o.2.1 130 p = nI (pS N (N 41) H p)) ∨ (okHb N (N 41) H = false ∧ o.1 = 0)) := by
  obtain ⟨c, g, gf, gc⟩ := hs9 b v v.w hH
  by_cases ok : okHb N (N 41) H = true
  · have b2 : Po (sI (sI c 108 31 0) 108 32 0) 109 N := (gf.po b (by decide)).keep (by rw [sI_row _ _ _ (by decide), sI_row _ _ _ (by decide)])
    obtain ⟨o, e, q⟩ := plans48L v b2 (D := pS N (N 41) H) (fun p hp => by rw [sI_row _ _ _ (by decide), sI_row _ _ _ (by decide)]; exact (gc ok).2.1 p hp) (by simp [sI1]) (by simp [sI1])
    refine ⟨o, ?_, Or.inl ⟨ok, q⟩⟩
    generalize hl : lp (F := Nat → Int32 → Hp → Option (Int32 × Hp)) (fun _ _ _ => none) f_X9_plans_74 1000 = LL at e
    unfold f_X9_plans_48
    rw [hl, wayNow9 b, Option.bind_some]
    dsimp only [lt]
    rw [g, Option.bind_some, if_neg (by rw [if_pos ok]; exact one_ne)]
    exact e
  · refine ⟨(0, c), ?_, Or.inr ⟨by simpa using ok, rfl⟩⟩
    generalize hl : lp (F := Nat → Int32 → Hp → Option (Int32 × Hp)) (fun _ _ _ => none) f_X9_plans_74 1000 = LL
    unfold f_X9_plans_48
    rw [hl, wayNow9 b, Option.bind_some]
    dsimp only [lt]
    rw [g, Option.bind_some, if_pos (if_neg ok), if_pos isB0]
theorem plans9 {N : Nat → Nat} (v : Vn N) {h : Hp} (b : Po h 109 N) : ∃ o, f_X9_plans 108 h = some o ∧ ((canP N = true ∧ o.1 = 1 ∧ Ls (hasSeat N) (isInN N) o.2 ∧ ∀ p, p < 6 → o.2.1 130 p = nI (pS N (N 41) (seatsA N) p)) ∨ (canP N = false ∧ o.1 = 0)) := by
  have hw := v.w
  have hs := seatsA_le v
  have wk : ∀ k, k < 10 → (nI (N 41) = nI k ↔ N 41 = k) := fun k hk => nI_eq (by omega) (by omega)
  have w0 : nI (N 41) = 0 ↔ N 41 = 0 := wk 0 (by decide)
  have w1 : nI (N 41) = 1 ↔ N 41 = 1 := wk 1 (by decide)
  have w2 : nI (N 41) = 2 ↔ N 41 = 2 := wk 2 (by decide)
  have w5 : nI (N 41) = 5 ↔ N 41 = 5 := wk 5 (by decide)
  unfold f_X9_plans
  rw [seats9 b, Option.bind_some]
  dsimp only
  by_cases hr : 1 ≤ seatsA N ∧ seatsA N ≤ 60
  · rw [w9i_1_60 _ hr.1 hr.2, Option.bind_some, if_neg one_ne]
    dsimp only
    obtain ⟨o, e, q⟩ := plans48 v b hr.2
    rw [wayNow9 b, Option.bind_some]
    dsimp only
    have fin : (N 41 = 0 ∨ N 41 = 1 ∨ N 41 = 2 ∨ N 41 = 5) → ((canP N = true ∧ o.1 = 1 ∧ Ls (hasSeat N) (isInN N) o.2 ∧ ∀ p, p < 6 → o.2.1 130 p = nI (pS N (N 41) (seatsA N) p)) ∨ (canP N = false ∧ o.1 = 0)) := fun hwy => by
      have e1 : (decide (N 41 = 0) || decide (N 41 = 1) || decide (N 41 = 2) || decide (N 41 = 5)) = true := by
        simp only [Bool.or_eq_true, decide_eq_true_eq]
        omega
      rcases q with ⟨q1, q2⟩ | ⟨q1, q2⟩
      · exact Or.inl ⟨by unfold canP; rw [e1, q1, decide_eq_true hr.1, decide_eq_true hr.2]; rfl, q2⟩
      · exact Or.inr ⟨by unfold canP; rw [q1, Bool.and_false, Bool.and_false, Bool.and_false], q2⟩
    by_cases z0 : N 41 = 0
    · rw [if_pos (w0.mpr z0), e]
      exact ⟨o, rfl, fin (Or.inl z0)⟩
    · rw [if_neg (fun z => z0 (w0.mp z)), wayNow9 b, Option.bind_some]
      dsimp only
      by_cases z1 : N 41 = 1
      · rw [if_pos (w1.mpr z1), e]
        exact ⟨o, rfl, fin (Or.inr (Or.inl z1))⟩
      · rw [if_neg (fun z => z1 (w1.mp z)), wayNow9 b, Option.bind_some]
        dsimp only
        by_cases z2 : N 41 = 2
        · rw [if_pos (w2.mpr z2), e]
          exact ⟨o, rfl, fin (Or.inr (Or.inr (Or.inl z2)))⟩
        · rw [if_neg (fun z => z2 (w2.mp z)), wayNow9 b, Option.bind_some]
          dsimp only
          by_cases z5 : N 41 = 5
          · rw [if_pos (w5.mpr z5), e]
            exact ⟨o, rfl, fin (Or.inr (Or.inr (Or.inr z5)))⟩
          · rw [if_neg (fun z => z5 (w5.mp z)), if_pos isB0]
            refine ⟨_, rfl, Or.inr ⟨?_, rfl⟩⟩
            unfold canP
            rw [decide_eq_false z0, decide_eq_false z1, decide_eq_false z2, decide_eq_false z5]
            rfl
  · have ho : f_X9_within (Int32.toInt64 (nI (seatsA N))) 1 60 h = some (0, h) := w9o_1_60 h (by
      by_cases q : 1 ≤ seatsA N
      · exact Or.inr (nI_lt (by omega) (by omega))
      · exact Or.inl (nI_lt (by omega) (by decide)))
    rw [ho, Option.bind_some, if_pos rfl, if_pos isB0]
    refine ⟨_, rfl, Or.inr ⟨?_, rfl⟩⟩
    unfold canP
    by_cases q : 1 ≤ seatsA N
    · rw [decide_eq_false (show ¬ seatsA N ≤ 60 by omega), Bool.false_and, Bool.and_false, Bool.and_false]
    · rw [decide_eq_false q, Bool.false_and, Bool.and_false]
