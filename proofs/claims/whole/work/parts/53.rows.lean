/-! rows -/
theorem fill8_loop {a : Nat} {v : Int32} (hl : ln a < 2 ^ 31) : ∀ (n i : Nat) (h : Hp), i ≤ ln a → ln a < i + n → ∃ h', lp (F := Nat → Int32 → Int32 → Int32 → Hp → Option (Unit × Hp)) (fun _ _ _ _ _ => none) f_J7_fill_53178_5 n a v (nI i) (nI (ln a)) h = some ((), h') ∧ (∀ k, k ≠ a → h'.1 k = h.1 k) ∧ h'.2 = h.2 ∧ (∀ j, j < i → h'.1 a j = h.1 a j) ∧ ∀ j, i ≤ j → j < ln a → h'.1 a j = v := by
  intro n
  induction n with
  | zero => intro i h h1 h2; omega
  | succ n ih =>
    intro i h h1 h2
    show ∃ h', f_J7_fill_53178_5 (lp (F := Nat → Int32 → Int32 → Int32 → Hp → Option (Unit × Hp)) (fun _ _ _ _ _ => none) f_J7_fill_53178_5 n) a v (nI i) (nI (ln a)) h = some ((), h') ∧ _
    generalize hK : lp (F := Nat → Int32 → Int32 → Int32 → Hp → Option (Unit × Hp)) (fun _ _ _ _ _ => none) f_J7_fill_53178_5 n = K at ih ⊢
    unfold f_J7_fill_53178_5
    by_cases he : i = ln a
    · refine ⟨h, ?_, fun _ _ => rfl, rfl, fun _ _ => rfl, fun j h3 h4 => by omega⟩
      rw [if_pos (nI_le (by omega) (by omega))]
    · obtain ⟨h', e1, e2, e3, e4, e5⟩ := ih (i + 1) (sI h a i v) (by omega) (by omega)
      refine ⟨h', ?_, fun k hk => (e2 k hk).trans (sI_row _ _ _ hk), e3, fun j hj => ?_, fun j h3 h4 => ?_⟩
      · rw [if_neg (nI_ge (by omega) hl), if_pos (ix_nI (by omega) hl)]
        simp only [lt, nI_clamp (show i < 2 ^ 31 by omega), nI_1]
        exact e1
      · rw [e4 j (by omega), sI1, if_pos rfl, if_neg (by omega)]
      · by_cases hji : j = i
        · subst hji
          rw [e4 j (by omega), sI1, if_pos rfl, if_pos rfl]
        · exact e5 j (by omega) h4
theorem fill8 {a : Nat} {v : Int32} (hl : ln a < 900) (h : Hp) : ∃ h', f_J7_fill_53178 a v h = some ((), h') ∧ (∀ k, k ≠ a → h'.1 k = h.1 k) ∧ h'.2 = h.2 ∧ ∀ j, j < ln a → h'.1 a j = v := by
  obtain ⟨h', e1, e2, e3, -, e5⟩ := fill8_loop (a := a) (v := v) (by omega) 1000 0 h (by omega) (by omega)
  exact ⟨h', e1, e2, e3, fun j hj => e5 j (by omega) hj⟩
theorem row9_loop {r n : Nat} (hr : r < 4) (hn : n ≤ 40) : ∀ (m i : Nat) (h : Hp), i ≤ n → n < i + m → ∃ h', lp (F := Nat → Int32 → Int32 → Int32 → Hp → Option (Int32 × Hp)) (fun _ _ _ _ _ => none) f_X9_row_34 m 108 (nI r) (nI n) (nI i) h = some (1, h') ∧ (∀ k, k ≠ 134 → h'.1 k = h.1 k) ∧ h'.2 = h.2 ∧ (∀ j, (j < 40 * r + i ∨ 40 * r + 40 ≤ j) → h'.1 134 j = h.1 134 j) ∧ ∀ j, i ≤ j → j < n → h'.1 134 (40 * r + j) = 0 := by
  intro m
  induction m with
  | zero => intro i h h1 h2; omega
  | succ m ih =>
    intro i h h1 h2
    show ∃ h', f_X9_row_34 (lp (F := Nat → Int32 → Int32 → Int32 → Hp → Option (Int32 × Hp)) (fun _ _ _ _ _ => none) f_X9_row_34 m) 108 (nI r) (nI n) (nI i) h = some (1, h') ∧ _
    generalize hK : lp (F := Nat → Int32 → Int32 → Int32 → Hp → Option (Int32 × Hp)) (fun _ _ _ _ _ => none) f_X9_row_34 m = K at ih ⊢
    unfold f_X9_row_34
    by_cases he : i = n
    · refine ⟨h, ?_, fun _ _ => rfl, rfl, fun _ _ => rfl, fun j h3 h4 => by omega⟩
      rw [if_pos (nI_le (by omega) (by omega))]
    · obtain ⟨h', e1, e2, e3, e4, e5⟩ := ih (i + 1) (sI h 134 (40 * r + i) 0) (by omega) (by omega)
      have ei : (40 : Int32) * nI r + nI i = nI (40 * r + i) := by rw [show (40 : Int32) = nI 40 from rfl, pk_mul, nI_add]
      refine ⟨h', ?_, fun k hk => (e2 k hk).trans (sI_row _ _ _ hk), e3, fun j hj => ?_, fun j h3 h4 => ?_⟩
      · rw [if_neg (nI_ge (by omega) (by omega)), ei, if_pos (ix_nI (by omega) (by decide))]
        simp only [lt, nI_clamp (show 40 * r + i < 2 ^ 31 by omega), nI_1]
        exact e1
      · rw [e4 j (by omega), sI1, if_pos rfl, if_neg (by omega)]
      · by_cases hji : j = i
        · subst hji
          rw [e4 _ (by omega), sI1, if_pos rfl, if_pos rfl]
        · exact e5 j (by omega) h4
theorem hasPlace8 {r n : Nat} {z : Int32} (h : Hp) (hr : r < 4) (hn : n ≤ 40) (e : h.1 106 r = nI n) : f_X6_hasPlace 100 (nI r) z h = some (if ix z n = true then 1 else 0, h) := by
  unfold f_X6_hasPlace
  by_cases h1 : z < 0
  · rw [if_pos h1]
    have : ix z n = false := by
      unfold ix
      simp [h1]
    rw [this]
    rfl
  · obtain ⟨j, hj, rfl⟩ := nI_of h1
    rw [if_neg h1, if_pos (ix_nI hr (by decide)), nI_clamp (by omega), show h.1 (100 + 6) r = nI n from e]
    by_cases h2 : j < n
    · rw [if_neg (nI_ge h2 (by omega)), ix_nI h2 (by omega)]
      rfl
    · rw [if_pos (nI_le (by omega) hj)]
      have : ix (nI j) n = false := by
        unfold ix
        rw [nI_clamp hj]
        simp [h2]
      rw [this]
      rfl
theorem hasPlace8n {r : Nat} {z : Int32} (h : Hp) (hr : r < 4) (e : h.1 106 r = -1) : f_X6_hasPlace 100 (nI r) z h = some (0, h) := by
  unfold f_X6_hasPlace
  by_cases h1 : z < 0
  · rw [if_pos h1]
    rfl
  · obtain ⟨j, hj, rfl⟩ := nI_of h1
    rw [if_neg h1, if_pos (ix_nI hr (by decide)), nI_clamp (by omega), show h.1 (100 + 6) r = -1 from e, if_pos (Int32.le_of_lt (Int32.lt_of_lt_of_le (by decide) (nI_pos' hj)))]
    rfl
theorem w9_none {x : Int32} (h : Hp) : f_X9_within (Int32.toInt64 x) 0 (Int32.toInt64 (-1 - 1)) h = some (0, h) := by
  unfold f_X9_within
  by_cases h1 : x < 0
  · rw [if_pos (by rw [lg_lt, show (0 : Int64) = Int32.toInt64 0 from rfl, i64_lt]; exact h1)]
    rfl
  · rw [if_neg (by rw [lg_lt, show (0 : Int64) = Int32.toInt64 0 from rfl, i64_lt]; exact h1), if_pos (by
      rw [lg_gt, i64_lt]
      obtain ⟨j, hj, rfl⟩ := nI_of h1
      exact Int32.lt_of_lt_of_le (by decide) (nI_pos' hj))]
    rfl
section ROWS
variable {PK : (Nat → Nat) → Hp → Prop}
theorem op_get (z1 z2 : Int32) : Op (Rel PK) (fun h => f_X8_get 0 z1 z2 h) (fun h => f_X9_get 108 z1 z2 h) := by
  intro h ⟨N, hR⟩
  obtain ⟨a1, a2, a3, a4, a5, a6, a7, a8⟩ := id hR
  rcases rng z1 3 (by decide) with ⟨r, hr, rfl⟩ | o1
  · rcases a7 r (by omega) with ⟨b1, b2⟩ | ⟨n, hn, b1, b2, b3⟩
    · refine ⟨-9223372036854775808, h, h, ?_, ?_, ⟨N, hR⟩⟩
      · show f_X8_get 0 (nI r) z2 h = some (-9223372036854775808, h)
        unfold f_X8_get
        simp only [w8i_3 h hr, Option.bind_some, one_ne, if_false]
        rw [show (0 + 100 : Nat) = 100 from rfl, hasPlace8n h (by omega) b1]
        rfl
      · show f_X9_get 108 (nI r) z2 h = some (-9223372036854775808, h)
        unfold f_X9_get
        simp only [isRowi h hr, Option.bind_some, one_ne, if_false, ix_nI (show r < 4 by omega) (by decide : 4 < 2 ^ 31), if_true, nI_clamp (show r < 2 ^ 31 by omega)]
        rw [show h.1 (108 + 27) r = -1 from b2, w9_none]
        rfl
    · by_cases hx : ix z2 n = true
      · obtain ⟨j, hj, rfl⟩ := (ix_iff (by omega)).mp hx
        refine ⟨Int32.toInt64 (h.1 (102 + r) j), h, h, ?_, ?_, ⟨N, hR⟩⟩
        · show f_X8_get 0 (nI r) (nI j) h = some (Int32.toInt64 (h.1 (102 + r) j), h)
          unfold f_X8_get
          simp only [w8i_3 h hr, Option.bind_some, one_ne, if_false]
          rw [show (0 + 100 : Nat) = 100 from rfl, hasPlace8 h (by omega) hn b1, hx]
          simp only [Option.bind_some, if_true, one_ne, if_false, ix_nI (show r < 4 by omega) (by decide : 4 < 2 ^ 31), ix_nI (show j < 40 by omega) (by decide : 40 < 2 ^ 31), nI_clamp (show r < 2 ^ 31 by omega), nI_clamp (show j < 2 ^ 31 by omega)]
        · show f_X9_get 108 (nI r) (nI j) h = some (Int32.toInt64 (h.1 (102 + r) j), h)
          have ei : (40 : Int32) * nI r + nI j = nI (40 * r + j) := by rw [show (40 : Int32) = nI 40 from rfl, pk_mul, nI_add]
          unfold f_X9_get
          simp only [isRowi h hr, Option.bind_some, one_ne, if_false, ix_nI (show r < 4 by omega) (by decide : 4 < 2 ^ 31), if_true, nI_clamp (show r < 2 ^ 31 by omega)]
          rw [show h.1 (108 + 27) r = nI n from b2, w9_sub h (by omega), hx]
          simp only [Option.bind_some, if_true, one_ne, if_false, ei, ix_nI (show 40 * r + j < 160 by omega) (by decide : 160 < 2 ^ 31), nI_clamp (show 40 * r + j < 2 ^ 31 by omega)]
          rw [b3 j hj]
      · refine ⟨-9223372036854775808, h, h, ?_, ?_, ⟨N, hR⟩⟩
        · show f_X8_get 0 (nI r) z2 h = some (-9223372036854775808, h)
          unfold f_X8_get
          simp only [w8i_3 h hr, Option.bind_some, one_ne, if_false]
          rw [show (0 + 100 : Nat) = 100 from rfl, hasPlace8 h (by omega) hn b1, if_neg hx]
          rfl
        · show f_X9_get 108 (nI r) z2 h = some (-9223372036854775808, h)
          unfold f_X9_get
          simp only [isRowi h hr, Option.bind_some, one_ne, if_false, ix_nI (show r < 4 by omega) (by decide : 4 < 2 ^ 31), if_true, nI_clamp (show r < 2 ^ 31 by omega)]
          rw [show h.1 (108 + 27) r = nI n from b2, w9_sub h (by omega), if_neg hx]
          rfl
  · refine ⟨-9223372036854775808, h, h, ?_, ?_, ⟨N, hR⟩⟩
    · show f_X8_get 0 z1 z2 h = some (-9223372036854775808, h)
      unfold f_X8_get
      simp only [w8o_3 h o1, Option.bind_some, if_true]
    · show f_X9_get 108 z1 z2 h = some (-9223372036854775808, h)
      unfold f_X9_get
      simp only [isRowo h o1, Option.bind_some, if_true]
theorem op_set (hPK : PKok PK) (z1 z2 z3 : Int32) : Op (Rel PK) (fun h => f_X8_set 0 z1 z2 z3 h) (fun h => f_X9_set 108 z1 z2 z3 h) := by
  intro h ⟨N, hR⟩
  obtain ⟨a1, a2, a3, a4, a5, a6, a7, a8⟩ := id hR
  rcases rng z1 3 (by decide) with ⟨r, hr, rfl⟩ | o1
  · have c4 : ix (nI r) 4 = true := ix_nI (by omega) (by decide)
    have cr : (nI r).toNatClampNeg = r := nI_clamp (by omega)
    rcases a7 r (by omega) with ⟨b1, b2⟩ | ⟨n, hn, b1, b2, b3⟩
    · refine same_op (r := -11) ⟨N, hR⟩ ?_ ?_
      · unfold f_X8_set f_X6_isThere
        simp only [w8i_3 h hr, Option.bind_some, one_ne, if_false, c4, if_true, cr]
        rw [show h.1 (0 + 100 + 6) r = -1 from b1]
        rfl
      · unfold f_X9_set
        simp only [isRowi h hr, Option.bind_some, one_ne, if_false, c4, if_true, cr]
        rw [show h.1 (108 + 27) r = -1 from b2, if_pos rfl]
    · have g1 : ¬ nI n < 0 := nI_pos (by omega)
      have g2 : ¬ nI n = -1 := fun z => absurd (show nI n < 0 by rw [z]; decide) g1
      by_cases hx : ix z2 n = true
      · obtain ⟨j, hj, rfl⟩ := (ix_iff (by omega)).mp hx
        have ei : (40 : Int32) * nI r + nI j = nI (40 * r + j) := by rw [show (40 : Int32) = nI 40 from rfl, pk_mul, nI_add]
        have c : Chg [102, 103, 104, 105, 134] [] h (sI (sI h (102 + r) j z3) 134 (40 * r + j) z3) := (Chg.refl.s1 (by rcases (show r = 0 ∨ r = 1 ∨ r = 2 ∨ r = 3 by omega) with rfl | rfl | rfl | rfl <;> decide)).s1 (by decide)
        refine ⟨1, sI h (102 + r) j z3, sI (sI h (102 + r) j z3) 134 (40 * r + j) z3, ?_, ?_, ⟨N, a1, c.pc a2 (by decide), c.po a3 (by decide), c.ri a4 (by decide) (by decide), c.rt a5 (by decide) (by decide), c.rs a6 (by decide) (by decide), fun r' hr' => ?_, c.rpl hPK a8 (by decide) (by decide)⟩⟩
        · show f_X8_set 0 (nI r) (nI j) z3 h = _
          unfold f_X8_set f_X6_isThere f_X6_put
          simp only [w8i_3 h hr, Option.bind_some, one_ne, if_false, c4, if_true, cr]
          rw [show h.1 (0 + 100 + 6) r = nI n from b1, if_neg g1]
          simp only [show isB 1 = true from rfl, if_true, Option.bind_some, one_ne, if_false]
          rw [show (0 + 100 : Nat) = 100 from rfl, hasPlace8 h (by omega) hn b1, hx]
          simp only [Option.bind_some, if_true, one_ne, if_false, ix_nI (show j < 40 by omega) (by decide : 40 < 2 ^ 31), nI_clamp (show j < 2 ^ 31 by omega), lt, show isB 1 = true from rfl]
        · show f_X9_set 108 (nI r) (nI j) z3 (sI h (102 + r) j z3) = _
          have q1 : (sI h (102 + r) j z3).1 (108 + 27) r = nI n := by rw [sI_row _ _ _ (by omega)]; exact b2
          unfold f_X9_set
          simp only [isRowi _ hr, Option.bind_some, one_ne, if_false, c4, if_true, cr, q1, g2, w9_sub _ (show n < 2 ^ 30 by omega), hx, ei, ix_nI (show 40 * r + j < 160 by omega) (by decide : 160 < 2 ^ 31), nI_clamp (show 40 * r + j < 2 ^ 31 by omega), lt]
        · have q106 : (sI (sI h (102 + r) j z3) 134 (40 * r + j) z3).1 106 = h.1 106 := c.1 106 (by decide) (by decide)
          have q135 : (sI (sI h (102 + r) j z3) 134 (40 * r + j) z3).1 135 = h.1 135 := c.1 135 (by decide) (by decide)
          rw [q106, q135]
          rcases a7 r' hr' with d | ⟨n', d1, d2, d3, d4⟩
          · exact Or.inl d
          · refine Or.inr ⟨n', d1, d2, d3, fun i hi => ?_⟩
            rw [sI_row _ _ _ (by omega), sI1, sI1, if_pos rfl, sI_row _ _ _ (by omega)]
            by_cases e : r' = r
            · subst e
              rw [if_pos rfl]
              by_cases e2 : i = j
              · rw [if_pos e2, if_pos (by omega)]
              · rw [if_neg e2, if_neg (by omega)]
                exact d4 i hi
            · rw [if_neg (by omega), if_neg (by
                have h1 : j < 40 := by omega
                have h2 : i < 40 := by omega
                omega)]
              exact d4 i hi
      · refine same_op (r := -13) ⟨N, hR⟩ ?_ ?_
        · unfold f_X8_set f_X6_isThere f_X6_put
          simp only [w8i_3 h hr, Option.bind_some, one_ne, if_false, c4, if_true, cr]
          rw [show h.1 (0 + 100 + 6) r = nI n from b1, if_neg g1]
          simp only [show isB 1 = true from rfl, if_true, Option.bind_some, one_ne, if_false]
          rw [show (0 + 100 : Nat) = 100 from rfl, hasPlace8 h (by omega) hn b1, if_neg hx]
          rfl
        · unfold f_X9_set
          simp only [isRowi _ hr, Option.bind_some, one_ne, if_false, c4, if_true, cr, show h.1 (108 + 27) r = nI n from b2, g2, w9_sub _ (show n < 2 ^ 30 by omega), hx]
          rfl
  · refine same_op (r := -1) ⟨N, hR⟩ ?_ ?_
    · unfold f_X8_set
      simp only [w8o_3 h o1, Option.bind_some, if_true]
    · unfold f_X9_set
      simp only [isRowo h o1, Option.bind_some, if_true]
theorem op_row (hPK : PKok PK) (z1 z2 : Int32) : Op (Rel PK) (fun h => f_X8_row 0 z1 z2 h) (fun h => f_X9_row 108 z1 z2 h) := by
  intro h ⟨N, hR⟩
  obtain ⟨a1, a2, a3, a4, a5, a6, a7, a8⟩ := id hR
  rcases rng z1 3 (by decide) with ⟨r, hr, rfl⟩ | o1
  · have c4 : ix (nI r) 4 = true := ix_nI (by omega) (by decide)
    have cr : (nI r).toNatClampNeg = r := nI_clamp (by omega)
    by_cases h40 : z2 ≤ 40
    · by_cases hz0 : 0 ≤ z2
      · obtain ⟨n, hn2, rfl⟩ := nI_of (Int32.not_lt.mpr hz0)
        have hn : n ≤ 40 := by
          rw [show (40 : Int32) = nI 40 from rfl, nI_leI hn2 (by decide)] at h40
          exact h40
        have hln : ln (102 + r) = 40 := by
          rcases (show r = 0 ∨ r = 1 ∨ r = 2 ∨ r = 3 by omega) with rfl | rfl | rfl | rfl <;> rfl
        obtain ⟨h1, e1, e2, e3, e4⟩ := fill8 (a := 102 + r) (v := 0) (by omega) h
        obtain ⟨h2, d1, d2, d3, d4, d5⟩ := row9_loop (r := r) (n := n) (by omega) hn 1000 0 (sI (sI h1 106 r (nI n)) 135 r (nI n)) (by omega) (by omega)
        have k : ∀ k, k ≠ 102 + r → k ≠ 106 → k ≠ 134 → k ≠ 135 → h2.1 k = h.1 k := fun k q1 q2 q3 q4 => by
          rw [d2 k q3, sI_row _ _ _ q4, sI_row _ _ _ q2, e2 k q1]
        have c : Chg [102, 103, 104, 105, 106, 134, 135] [] h h2 := ⟨fun j q1 q2 => k j (by intro z; subst z; rcases (show r = 0 ∨ r = 1 ∨ r = 2 ∨ r = 3 by omega) with rfl | rfl | rfl | rfl <;> exact q1 (by decide)) (by intro z; subst z; exact q1 (by decide)) (by intro z; subst z; exact q1 (by decide)) (by intro z; subst z; exact q1 (by decide)), fun i _ => by rw [k 108 (by omega) (by decide) (by decide) (by decide)]⟩
        refine ⟨1, sI h1 106 r (nI n), h2, ?_, ?_, ⟨N, a1, c.pc a2 (by decide), c.po a3 (by decide), c.ri a4 (by decide) (by decide), c.rt a5 (by decide) (by decide), c.rs a6 (by decide) (by decide), fun r' hr' => ?_, c.rpl hPK a8 (by decide) (by decide)⟩⟩
        · show f_X8_row 0 (nI r) (nI n) h = _
          unfold f_X8_row f_X6_makeRow
          simp only [w8i_3 h hr, Option.bind_some, one_ne, if_false, h40, hz0, if_true, c4, cr]
          rw [show 0 + 100 + 1 + 1 + r = 102 + r by omega, e1]
          rfl
        · show f_X9_row 108 (nI r) (nI n) (sI h1 106 r (nI n)) = _
          unfold f_X9_row
          simp only [isRowi _ hr, Option.bind_some, one_ne, if_false, h40, hz0, if_true, c4, cr, lt]
          exact d1
        · by_cases er : r' = r
          · subst er
            refine Or.inr ⟨n, hn, ?_, ?_, fun i hi => ?_⟩
            · rw [d2 106 (by decide), sI_row _ _ _ (by decide), sI1, if_pos rfl, if_pos rfl]
            · rw [d2 135 (by decide), sI1, if_pos rfl, if_pos rfl]
            · rw [d5 i (by omega) hi, d2 (102 + r') (by omega), sI_row _ _ _ (by omega), sI_row _ _ _ (by omega), e4 i (by omega)]
          · have q106 : h2.1 106 r' = h.1 106 r' := by rw [d2 106 (by decide), sI_row _ _ _ (by decide), sI1, if_pos rfl, if_neg er, e2 106 (by omega)]
            have q135 : h2.1 135 r' = h.1 135 r' := by rw [d2 135 (by decide), sI1, if_pos rfl, if_neg er, sI_row _ _ _ (by decide), e2 135 (by omega)]
            rw [q106, q135, k (102 + r') (by omega) (by omega) (by omega) (by omega)]
            rcases a7 r' hr' with d | ⟨n', b1, b2, b3, b4⟩
            · exact Or.inl d
            · refine Or.inr ⟨n', b1, b2, b3, fun i hi => ?_⟩
              rw [d4 _ (by omega), sI_row _ _ _ (by decide), sI_row _ _ _ (by decide), e2 134 (by omega)]
              exact b4 i hi
      · refine same_op (r := -14) ⟨N, hR⟩ ?_ ?_
        · unfold f_X8_row
          simp only [w8i_3 h hr, Option.bind_some, one_ne, if_false, h40, hz0, if_true]
        · unfold f_X9_row
          simp only [isRowi _ hr, Option.bind_some, one_ne, if_false, h40, hz0, if_true]
    · refine same_op (r := -2) ⟨N, hR⟩ ?_ ?_
      · unfold f_X8_row
        simp only [w8i_3 h hr, Option.bind_some, one_ne, if_false, h40]
      · unfold f_X9_row
        simp only [isRowi _ hr, Option.bind_some, one_ne, if_false, h40]
  · refine same_op (r := -1) ⟨N, hR⟩ ?_ ?_
    · unfold f_X8_row
      simp only [w8o_3 h o1, Option.bind_some, if_true]
    · unfold f_X9_row
      simp only [isRowo h o1, Option.bind_some, if_true]
end ROWS
