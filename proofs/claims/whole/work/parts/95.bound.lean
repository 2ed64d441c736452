theorem prod8s {a y : Nat} (h : Hp) (ha : a < 2 ^ 63) (hy : y < 2 ^ 63) (q : a * y < 2 ^ 63) : f_X8_product (lN a) (lN y) h = some (lN (a * y), h) := by
  have e := prod8 (x := some a) (y := y) h (fun b e => by cases e; exact ha) hy
  rw [show pm (some a) y = some (a * y) from if_pos q] at e
  exact e
theorem prod8n {a y : Nat} (h : Hp) (ha : a < 2 ^ 63) (hy : y < 2 ^ 63) (q : ¬ a * y < 2 ^ 63) : f_X8_product (lN a) (lN y) h = some (-1, h) := by
  have e := prod8 (x := some a) (y := y) h (fun b e => by cases e; exact ha) hy
  rw [show pm (some a) y = none from if_neg q] at e
  exact e
theorem times9s {a y : Nat} (h : Hp) (ha : a < 2 ^ 63) (hy : y < 2 ^ 63) (q : a * y < 2 ^ 63) : f_X9_times 108 (lN a) (lN y) h = some (lN (a * y), h) := by
  have e := times9 (x := some a) (y := y) h (fun b e => by cases e; exact ha) hy
  rw [show pm (some a) y = some (a * y) from if_pos q] at e
  exact e
theorem times9n {a y : Nat} (h : Hp) (ha : a < 2 ^ 63) (hy : y < 2 ^ 63) (q : ¬ a * y < 2 ^ 63) : f_X9_times 108 (lN a) (lN y) h = some (lN 0, sI h 108 38 1) := by
  have e := times9 (x := some a) (y := y) h (fun b e => by cases e; exact ha) hy
  rw [show pm (some a) y = none from if_neg q] at e
  exact e
def bX (N s : Nat → Nat) (r t p : Nat) : Nat := N (6 * r + p) * blw N (N 41) 1 * mrk N (N 41) (s (6 * t + p))
def bY (N s : Nat → Nat) (r t p : Nat) : Nat := N (6 * t + p) * blw N (N 41) 1 * mrk N (N 41) (s (6 * r + p) + 1)
/-- the lowest so far, after one more party; none: no answer -/
def bS (N s : Nat → Nat) (r t p a b : Nat) : Option (Nat × Nat) := if s (6 * t + p) = 0 then some (a, b) else if mrk N (N 41) (s (6 * t + p)) = 0 ∨ bY N s r t p = 0 then none else if b = 0 then some (lowN (bX N s r t p) (bY N s r t p) 0, lowN (bX N s r t p) (bY N s r t p) 1) else if lowN (bX N s r t p) (bY N s r t p) 0 * b < 2 ^ 63 ∧ a * lowN (bX N s r t p) (bY N s r t p) 1 < 2 ^ 63 then (if lowN (bX N s r t p) (bY N s r t p) 0 * b ≤ a * lowN (bX N s r t p) (bY N s r t p) 1 then some (a, b) else some (lowN (bX N s r t p) (bY N s r t p) 0, lowN (bX N s r t p) (bY N s r t p) 1)) else none
def bG (N s : Nat → Nat) (r t : Nat) (part : Int32) : Nat → Nat → Nat → Nat → Int64
  | 0, _, a, b => if b = 0 then -9223372036854775808 else lN (lowN a b part)
  | d + 1, i, a, b => match bS N s r t i a b with
    | none => -9223372036854775808
    | some q => bG N s r t part d (i + 1) q.1 q.2
theorem lowN_le {a b B : Nat} (part : Int32) (ha : a < B) (hb : b < B) : lowN a b part < B := by
  have h1 : a / Nat.gcd a b ≤ a := Nat.div_le_self _ _
  have h2 : b / Nat.gcd a b ≤ b := Nat.div_le_self _ _
  unfold lowN
  split <;> omega
theorem lowN_pos {a b : Nat} (h0 : 0 < b) : 0 < lowN a b 1 := by
  have g0 : 0 < Nat.gcd a b := Nat.gcd_pos_of_pos_right a h0
  have g1 : Nat.gcd a b ≤ b := Nat.gcd_le_right a h0
  unfold lowN
  rw [if_neg (by decide)]
  exact Nat.div_pos g1 g0
theorem b_le {x y z : Nat} (h1 : x ≤ 100000) (h2 : y ≤ 2000) (h3 : z ≤ 180000) : x * y ≤ 200000000 ∧ x * y * z < 2 ^ 46 := by
  have q1 : x * y ≤ 100000 * 2000 := Nat.mul_le_mul h1 h2
  have q2 : x * y * z ≤ (100000 * 2000) * 180000 := Nat.mul_le_mul q1 h3
  omega
theorem blw_pos {N : Nat → Nat} (v : Vn N) (w : Nat) : 1 ≤ blw N w 1 := by
  have := v.2.2
  unfold blw
  split
  · omega
  · split
    · omega
    · split <;> omega
theorem bY0 {N s : Nat → Nat} (v : Vn N) {r t p : Nat} : bY N s r t p = 0 ↔ N (6 * t + p) = 0 ∨ mrk N (N 41) (s (6 * r + p) + 1) = 0 := by
  have := blw_pos v (N 41)
  unfold bY
  rw [Nat.mul_eq_zero, Nat.mul_eq_zero]
  omega
theorem pmb8 {N : Nat → Nat} (v : Vn N) (hpw : planW (N 41)) {h : Hp} (a : Pc h 1 N) : f_X3_planMarkBelow 1 h = some (lN (blw N (N 41) 1), h) := by
  have ew : h.1 1 5 = nI (N 41) := a 41 (by decide)
  unfold f_X3_planMarkBelow
  rw [ew, show f_X3_priceAbove 1 (nI (N 41)) 1 1 h = _ from pay8 (n := 1) (u := 1) a v v.w (Nat.le_refl 1) (by decide), pay_p hpw]
  rfl
theorem bound8L {N s : Nat → Nat} {Q : Nat → Bool} (v : Vn N) (hpw : planW (N 41)) {h : Hp} (a1 : Pc h 1 N) (e57 : ∀ c, c < 24 → h.1 57 c = nI (s c)) (e67 : h.1 67 2 = bits6 Q) (bs : ∀ c, s c ≤ 260) (zr : ∀ w p, w < 4 → p < 6 → Q p = false → s (6 * w + p) = 0) {r t : Nat} {part : Int32} (hr : r < 4) (ht : t < 4) : ∀ d i m a b, i + d = 6 → d < m → a < 2 ^ 46 → b < 2 ^ 46 → (b = 0 → a = 0) → lp (F := Nat → Nat → Int32 → Int32 → Int32 → Int64 → Int64 → Int32 → Hp → Option (Int64 × Hp)) (fun _ _ _ _ _ _ _ _ _ => none) f_X2_boundBetween_9 m 56 1 (nI r) (nI t) part (lN a) (lN b) (nI i) h = some (bG N s r t part d i a b, h) := by
  intro d
  induction d with
  | zero =>
    intro i m a b hi hm ha hb h0
    obtain ⟨m, rfl⟩ : ∃ k, m = k + 1 := ⟨m - 1, by omega⟩
    have : i = 6 := by omega
    subst this
    show f_X2_boundBetween_9 _ 56 1 (nI r) (nI t) part (lN a) (lN b) (nI 6) h = some (if b = 0 then -9223372036854775808 else lN (lowN a b part), h)
    generalize lp (F := Nat → Nat → Int32 → Int32 → Int32 → Int64 → Int64 → Int32 → Hp → Option (Int64 × Hp)) (fun _ _ _ _ _ _ _ _ _ => none) f_X2_boundBetween_9 m = K
    unfold f_X2_boundBetween_9
    rw [if_pos (show (6 : Int32) ≤ nI 6 by decide)]
    by_cases z : b = 0
    · rw [z, lowest8_0 h (by omega), Option.bind_some, if_pos rfl]
    · rw [lowest8 h (by omega) (by omega) (by omega), Option.bind_some, if_neg z]
  | succ d ih =>
    intro i m a b hi hm ha hb h0
    obtain ⟨m, rfl⟩ : ∃ k, m = k + 1 := ⟨m - 1, by omega⟩
    have hi6 : i < 6 := by omega
    have ew : h.1 1 5 = nI (N 41) := a1 41 (by decide)
    have br := bs (6 * r + i)
    have bt := bs (6 * t + i)
    have ih' := fun a b => ih (i + 1) m a b (by omega) (by omega)
    show f_X2_boundBetween_9 (lp (F := Nat → Nat → Int32 → Int32 → Int32 → Int64 → Int64 → Int32 → Hp → Option (Int64 × Hp)) (fun _ _ _ _ _ _ _ _ _ => none) f_X2_boundBetween_9 m) 56 1 (nI r) (nI t) part (lN a) (lN b) (nI i) h = some (match bS N s r t i a b with
      | none => -9223372036854775808
      | some q => bG N s r t part d (i + 1) q.1 q.2, h)
    generalize lp (F := Nat → Nat → Int32 → Int32 → Int32 → Int64 → Int64 → Int32 → Hp → Option (Int64 × Hp)) (fun _ _ _ _ _ _ _ _ _ => none) f_X2_boundBetween_9 m = K at ih'
    have skip : ∀ a b, a < 2 ^ 46 → b < 2 ^ 46 → (b = 0 → a = 0) → f_X2_boundBetween_265 K 56 1 (nI r) (nI t) part (lN a) (lN b) (nI i) h = some (bG N s r t part d (i + 1) a b, h) := fun a b ha hb h0 => by
      unfold f_X2_boundBetween_265
      dsimp only [lt]
      rw [nI_1]
      exact ih' a b ha hb h0
    unfold f_X2_boundBetween_9
    rw [if_neg (ge6 hi6), cellw, Option.bind_some, cellw, Option.bind_some]
    dsimp only
    rw [show h.1 (56 + 11) 2 = _ from e67, holds6 Q hi6, Option.bind_some]
    dsimp only
    have z0 : s (6 * t + i) = 0 → bS N s r t i a b = some (a, b) := fun z => by unfold bS; rw [if_pos z]
    by_cases hQ : Q i = true
    · rw [if_neg (by rw [if_pos hQ]; exact one_ne), if_pos (ix24 (by omega)), nI_clamp (by omega), show h.1 (56 + 1) (6 * t + i) = _ from e57 _ (by omega)]
      by_cases z : s (6 * t + i) = 0
      · rw [if_pos (by rw [z]; rfl), z0 z]
        exact skip a b ha hb h0
      · have v1 := vote_le v (k := 6 * r + i) (by omega)
        have v2 := vote_le v (k := 6 * t + i) (by omega)
        have q1 := blw_le v (N 41) (n := 1) (by decide)
        have m1 := mrk_le (N := N) (w := N 41) (n := s (6 * t + i)) v (by omega)
        have m2 := mrk_le (N := N) (w := N 41) (n := s (6 * r + i) + 1) v (by omega)
        obtain ⟨x1, x2⟩ := b_le v1 q1 m1
        obtain ⟨y1, y2⟩ := b_le v2 q1 m2
        rw [if_neg (nI_ne0 (by omega) (by omega)), if_pos (ix24 (by omega)), nI_clamp (by omega), show h.1 (56 + 1) (6 * r + i) = _ from e57 _ (by omega), ew, nI_1, mark8 a1 v v.w (by omega) (by omega), Option.bind_some]
        dsimp only
        rw [if_pos (ix24 (by omega)), show h.1 (56 + 1) (6 * t + i) = _ from e57 _ (by omega), ew, mark8 a1 v v.w (by omega) (by omega), Option.bind_some]
        dsimp only
        by_cases zn : mrk N (N 41) (s (6 * r + i) + 1) = 0
        · rw [if_pos (by rw [lg_eq0, zn]; rfl), show bS N s r t i a b = none by unfold bS; rw [if_neg z, if_pos (Or.inr ((bY0 v).mpr (Or.inr zn)))]]
        rw [if_neg (by rw [lg_eq0, lN_e0 (by omega)]; exact zn)]
        by_cases zl : mrk N (N 41) (s (6 * t + i)) = 0
        · rw [if_pos (by rw [lg_eq0, zl]; rfl), show bS N s r t i a b = none by unfold bS; rw [if_neg z, if_pos (Or.inl zl)]]
        rw [if_neg (by rw [lg_eq0, lN_e0 (by omega)]; exact zl), if_pos (ix24 (by omega)), cast8 a1 (show 6 * t + i < 24 by omega)]
        by_cases zc : N (6 * t + i) = 0
        · rw [if_pos (by rw [zc]; rfl), show bS N s r t i a b = none by unfold bS; rw [if_neg z, if_pos (Or.inr ((bY0 v).mpr (Or.inl zc)))]]
        have ny : ¬ bY N s r t i = 0 := fun q => by
          rcases (bY0 v).mp q with w | w
          · exact zc w
          · exact zn w
        have hX : bX N s r t i < 2 ^ 46 := x2
        have hY : bY N s r t i < 2 ^ 46 := y2
        rw [if_neg (nI_ne0 (by omega) (by omega)), if_pos (ix24 (by omega)), pmb8 v hpw a1, Option.bind_some]
        dsimp only
        rw [cast8 a1 (show 6 * r + i < 24 by omega), nI_l (by omega), prod8s h (by omega) (by omega) (by omega), Option.bind_some]
        dsimp only
        rw [prod8s h (by omega) (by omega) (by omega), Option.bind_some]
        dsimp only
        rw [if_pos (ix24 (by omega)), pmb8 v hpw a1, Option.bind_some]
        dsimp only
        rw [cast8 a1 (show 6 * t + i < 24 by omega), nI_l (by omega), prod8s h (by omega) (by omega) (by omega), Option.bind_some]
        dsimp only
        rw [prod8s h (by omega) (by omega) (by omega), Option.bind_some]
        dsimp only
        rw [show N (6 * r + i) * blw N (N 41) 1 * mrk N (N 41) (s (6 * t + i)) = bX N s r t i from rfl, show N (6 * t + i) * blw N (N 41) 1 * mrk N (N 41) (s (6 * r + i) + 1) = bY N s r t i from rfl]
        rw [if_neg (by rw [lg_lt, l0, pk_lLT (by omega) (by decide)]; omega), if_pos (by rw [lg_ge, l0, pk_lLT (by omega) (by decide)]; omega), lowest8 h (by omega) (by omega) (by omega), Option.bind_some]
        dsimp only
        rw [lowest8 h (by omega) (by omega) (by omega), Option.bind_some]
        dsimp only
        have l1 := lowN_le 0 hX hY
        have l2 := lowN_le 1 hX hY
        have l3 := lowN_pos (a := bX N s r t i) (b := bY N s r t i) (by omega)
        have eS : bS N s r t i a b = if b = 0 then some (lowN (bX N s r t i) (bY N s r t i) 0, lowN (bX N s r t i) (bY N s r t i) 1) else if lowN (bX N s r t i) (bY N s r t i) 0 * b < 2 ^ 63 ∧ a * lowN (bX N s r t i) (bY N s r t i) 1 < 2 ^ 63 then (if lowN (bX N s r t i) (bY N s r t i) 0 * b ≤ a * lowN (bX N s r t i) (bY N s r t i) 1 then some (a, b) else some (lowN (bX N s r t i) (bY N s r t i) 0, lowN (bX N s r t i) (bY N s r t i) 1)) else none := by
          unfold bS
          rw [if_neg z, if_neg (fun w => w.elim zl ny)]
        rw [eS]
        generalize lowN (bX N s r t i) (bY N s r t i) 0 = c at l1 ⊢
        generalize lowN (bX N s r t i) (bY N s r t i) 1 = e at l2 l3 ⊢
        have take : f_X2_boundBetween_257 K 56 1 (nI r) (nI t) part (nI i) (lN c) (lN e) h = some (bG N s r t part d (i + 1) c e, h) := skip c e l1 l2 (fun q => by omega)
        by_cases b0 : b = 0
        · have a0 := h0 b0
          subst b0
          subst a0
          rw [prod8s h (by omega) (by omega) (by rw [Nat.mul_zero]; decide), Option.bind_some]
          dsimp only
          rw [prod8s h (by omega) (by omega) (by rw [Nat.zero_mul]; decide), Option.bind_some]
          dsimp only
          rw [Nat.mul_zero, Nat.zero_mul, if_neg (by rw [lg_lt]; decide), if_pos (by rw [lg_ge]; decide), if_pos (by rw [lg_eq0]; rfl), if_pos rfl]
          exact take
        · rw [if_neg b0]
          by_cases o1 : c * b < 2 ^ 63
          · rw [prod8s h (by omega) (by omega) o1, Option.bind_some]
            dsimp only
            by_cases o2 : a * e < 2 ^ 63
            · rw [prod8s h (by omega) (by omega) o2, Option.bind_some]
              dsimp only
              rw [if_neg (by rw [lg_lt, l0, pk_lLT (by omega) (by decide)]; omega), if_pos (by rw [lg_ge, l0, pk_lLT (by omega) (by decide)]; omega), if_neg (show ¬ lg_cmp (lN b) 0 = 0 by rw [lg_eq0, lN_e0 (by omega)]; exact b0), if_pos (show c * b < 2 ^ 63 ∧ a * e < 2 ^ 63 from ⟨o1, o2⟩)]
              by_cases le : c * b ≤ a * e
              · rw [if_pos (show lg_cmp (lN (c * b)) (lN (a * e)) ≤ 0 by rw [lg_le, pk_lLT o2 o1]; omega), if_pos le]
                exact skip a b ha hb h0
              · rw [if_neg (show ¬ lg_cmp (lN (c * b)) (lN (a * e)) ≤ 0 by rw [lg_le, pk_lLT o2 o1]; omega), if_neg le]
                exact take
            · rw [prod8n h (by omega) (by omega) o2, Option.bind_some]
              dsimp only
              rw [if_neg (by rw [lg_lt, l0, pk_lLT (by omega) (by decide)]; omega), if_neg (fun w => lg_ge.mp w (by decide)), if_neg (show ¬ (c * b < 2 ^ 63 ∧ a * e < 2 ^ 63) from fun w => o2 w.2)]
          · rw [prod8n h (by omega) (by omega) o1, Option.bind_some]
            dsimp only
            obtain ⟨y, ey⟩ : ∃ y, f_X8_product (lN a) (lN e) h = some (y, h) := by
              by_cases o2 : a * e < 2 ^ 63
              · exact ⟨_, prod8s h (by omega) (by omega) o2⟩
              · exact ⟨_, prod8n h (by omega) (by omega) o2⟩
            rw [ey, Option.bind_some]
            dsimp only
            rw [if_pos (lg_lt.mpr (by decide)), if_neg (show ¬ (c * b < 2 ^ 63 ∧ a * e < 2 ^ 63) from fun w => o1 w.1)]
    · have hf : Q i = false := by simpa using hQ
      rw [if_pos (if_neg hQ), z0 (zr t i ht hi6 hf)]
      exact skip a b ha hb h0
/-- the reference: with the flag it ends in no answer -/
theorem bound9L {N s : Nat → Nat} (v : Vn N) (hpw : planW (N 41)) (bs : ∀ c, s c ≤ 260) {r t : Nat} {part : Int32} (hr : r < 4) (ht : t < 4) : ∀ d i m a b (h : Hp), Po h 109 N → (∀ c, c < 24 → h.1 131 c = nI (s c)) → i + d = 6 → d < m → a < 2 ^ 46 → b < 2 ^ 46 → ∃ o, lp (F := Nat → Int32 → Int32 → Int32 → Int64 → Int64 → Int32 → Hp → Option (Int64 × Hp)) (fun _ _ _ _ _ _ _ _ => none) f_X9_bound_67 m 108 (nI r) (nI t) part (lN a) (lN b) (nI i) h = some (if h.1 108 38 = 0 then bG N s r t part d i a b else -9223372036854775808, o) ∧ (o = h ∨ o = sI h 108 38 1) := by
  intro d
  induction d with
  | zero =>
    intro i m a b h p e131 hi hm ha hb
    obtain ⟨m, rfl⟩ : ∃ k, m = k + 1 := ⟨m - 1, by omega⟩
    have : i = 6 := by omega
    subst this
    refine ⟨h, ?_, Or.inl rfl⟩
    show f_X9_bound_67 _ 108 (nI r) (nI t) part (lN a) (lN b) (nI 6) h = some (if h.1 108 38 = 0 then (if b = 0 then -9223372036854775808 else lN (lowN a b part)) else -9223372036854775808, h)
    generalize lp (F := Nat → Int32 → Int32 → Int32 → Int64 → Int64 → Int32 → Hp → Option (Int64 × Hp)) (fun _ _ _ _ _ _ _ _ => none) f_X9_bound_67 m = K
    unfold f_X9_bound_67 f_X9_bound_291
    rw [if_pos (show (6 : Int32) ≤ nI 6 by decide)]
    by_cases f : h.1 108 38 = 0
    · rw [if_pos f, if_pos f]
      by_cases z : b = 0
      · rw [if_pos (by rw [lg_eq0, z]; rfl), if_pos z]
      · rw [if_neg (by rw [lg_eq0, lN_e0 (by omega)]; exact z), if_neg z, lowest9 h (by omega) (by omega) (by omega), Option.bind_some]
    · rw [if_neg f, if_neg f]
  | succ d ih =>
    intro i m a b h p e131 hi hm ha hb
    obtain ⟨m, rfl⟩ : ∃ k, m = k + 1 := ⟨m - 1, by omega⟩
    have hi6 : i < 6 := by omega
    have br := bs (6 * r + i)
    have bt := bs (6 * t + i)
    have ih' := fun a b h p e => ih (i + 1) m a b h p e (by omega) (by omega)
    show ∃ o, f_X9_bound_67 (lp (F := Nat → Int32 → Int32 → Int32 → Int64 → Int64 → Int32 → Hp → Option (Int64 × Hp)) (fun _ _ _ _ _ _ _ _ => none) f_X9_bound_67 m) 108 (nI r) (nI t) part (lN a) (lN b) (nI i) h = some (if h.1 108 38 = 0 then (match bS N s r t i a b with
      | none => -9223372036854775808
      | some q => bG N s r t part d (i + 1) q.1 q.2) else -9223372036854775808, o) ∧ (o = h ∨ o = sI h 108 38 1)
    generalize lp (F := Nat → Int32 → Int32 → Int32 → Int64 → Int64 → Int32 → Hp → Option (Int64 × Hp)) (fun _ _ _ _ _ _ _ _ => none) f_X9_bound_67 m = K at ih'
    have skip : ∀ a b, a < 2 ^ 46 → b < 2 ^ 46 → ∃ o, f_X9_bound_271 K 108 (nI r) (nI t) part (lN a) (lN b) (nI i) h = some (if h.1 108 38 = 0 then bG N s r t part d (i + 1) a b else -9223372036854775808, o) ∧ (o = h ∨ o = sI h 108 38 1) := fun a b ha hb => by
      unfold f_X9_bound_271
      dsimp only [lt]
      rw [nI_1]
      exact ih' a b h p e131 ha hb
    have over : ∀ a b, a < 2 ^ 46 → b < 2 ^ 46 → ∃ o, f_X9_bound_271 K 108 (nI r) (nI t) part (lN a) (lN b) (nI i) (sI h 108 38 1) = some (-9223372036854775808, o) ∧ (o = h ∨ o = sI h 108 38 1) := fun a b ha hb => by
      obtain ⟨o, e, oo⟩ := ih' a b (sI h 108 38 1) (p.keep (sI_row _ _ _ (by decide))) (fun c hc => by rw [sI_row _ _ _ (by decide)]; exact e131 c hc) ha hb
      rw [if_neg (by rw [sI1, if_pos rfl, if_pos rfl]; exact one_ne)] at e
      unfold f_X9_bound_271
      dsimp only [lt]
      rw [nI_1]
      refine ⟨o, e, Or.inr ?_⟩
      rcases oo with oo | oo
      · exact oo
      · rw [oo, sI_sI]
    have nope : bS N s r t i a b = none → ∃ o, (some ((-9223372036854775808 : Int64), h) : Option (Int64 × Hp)) = some (if h.1 108 38 = 0 then (match bS N s r t i a b with
      | none => -9223372036854775808
      | some q => bG N s r t part d (i + 1) q.1 q.2) else -9223372036854775808, o) ∧ (o = h ∨ o = sI h 108 38 1) := fun e => by
      rw [e]
      exact ⟨h, by split <;> rfl, Or.inl rfl⟩
    unfold f_X9_bound_67
    rw [if_neg (ge6 hi6), c6, c6, if_pos (ix24 (by omega)), nI_clamp (by omega), show h.1 (108 + 23) (6 * r + i) = _ from e131 _ (by omega), nI_1]
    dsimp only [lt]
    rw [if_pos (ix24 (by omega)), nI_clamp (by omega), show h.1 (108 + 23) (6 * t + i) = _ from e131 _ (by omega)]
    by_cases z : s (6 * t + i) = 0
    · rw [if_pos (by rw [z]; rfl), show bS N s r t i a b = some (a, b) by unfold bS; rw [if_pos z]]
      exact skip a b ha hb
    · have v1 := vote_le v (k := 6 * r + i) (by omega)
      have v2 := vote_le v (k := 6 * t + i) (by omega)
      have q1 := blw_le v (N 41) (n := 1) (by decide)
      have m1 := mrk_le (N := N) (w := N 41) (n := s (6 * t + i)) v (by omega)
      have m2 := mrk_le (N := N) (w := N 41) (n := s (6 * r + i) + 1) v (by omega)
      obtain ⟨x1, x2⟩ := b_le v1 q1 m1
      obtain ⟨y1, y2⟩ := b_le v2 q1 m2
      have hX : bX N s r t i < 2 ^ 46 := x2
      have hY : bY N s r t i < 2 ^ 46 := y2
      rw [if_neg (nI_ne0 (by omega) (by omega)), votesOf9 p hr hi6, Option.bind_some]
      dsimp only
      rw [wayNow9 p, Option.bind_some]
      dsimp only
      rw [below9 p v.w (by omega), Option.bind_some, blw_p hpw]
      dsimp only
      rw [nI_l (by omega), nI_l (by omega), times9s h (by omega) (by omega) (by omega), Option.bind_some]
      dsimp only
      rw [wayNow9 p, Option.bind_some]
      dsimp only
      rw [above9 p v.w (by omega), Option.bind_some]
      dsimp only
      rw [nI_l (by omega), times9s h (by omega) (by omega) (by omega), Option.bind_some]
      dsimp only
      rw [votesOf9 p ht hi6, Option.bind_some]
      dsimp only
      rw [wayNow9 p, Option.bind_some]
      dsimp only
      rw [below9 p v.w (by omega), Option.bind_some, blw_p hpw]
      dsimp only
      rw [nI_l (by omega), nI_l (by omega), times9s h (by omega) (by omega) (by omega), Option.bind_some]
      dsimp only
      rw [wayNow9 p, Option.bind_some]
      dsimp only
      rw [above9 p v.w (by omega), Option.bind_some]
      dsimp only
      rw [nI_l (by omega), times9s h (by omega) (by omega) (by omega), Option.bind_some]
      dsimp only
      rw [wayNow9 p, Option.bind_some]
      dsimp only
      rw [above9 p v.w (by omega), Option.bind_some]
      dsimp only
      rw [show N (6 * r + i) * blw N (N 41) 1 * mrk N (N 41) (s (6 * t + i)) = bX N s r t i from rfl, show N (6 * t + i) * blw N (N 41) 1 * mrk N (N 41) (s (6 * r + i) + 1) = bY N s r t i from rfl]
      by_cases zl : mrk N (N 41) (s (6 * t + i)) = 0
      · rw [if_pos (by rw [zl]; rfl)]
        exact nope (by unfold bS; rw [if_neg z, if_pos (Or.inl zl)])
      rw [if_neg (nI_ne0 (by omega) (by omega))]
      by_cases ny : bY N s r t i = 0
      · rw [if_pos (by rw [lg_eq0, ny]; rfl)]
        exact nope (by unfold bS; rw [if_neg z, if_pos (Or.inr ny)])
      rw [if_neg (by rw [lg_eq0, lN_e0 (by omega)]; exact ny), lowest9 h (by omega) (by omega) (by omega), Option.bind_some]
      dsimp only
      rw [lowest9 h (by omega) (by omega) (by omega), Option.bind_some]
      dsimp only
      have l1 := lowN_le 0 hX hY
      have l2 := lowN_le 1 hX hY
      have eS : bS N s r t i a b = if b = 0 then some (lowN (bX N s r t i) (bY N s r t i) 0, lowN (bX N s r t i) (bY N s r t i) 1) else if lowN (bX N s r t i) (bY N s r t i) 0 * b < 2 ^ 63 ∧ a * lowN (bX N s r t i) (bY N s r t i) 1 < 2 ^ 63 then (if lowN (bX N s r t i) (bY N s r t i) 0 * b ≤ a * lowN (bX N s r t i) (bY N s r t i) 1 then some (a, b) else some (lowN (bX N s r t i) (bY N s r t i) 0, lowN (bX N s r t i) (bY N s r t i) 1)) else none := by
        unfold bS
        rw [if_neg z, if_neg (fun w => w.elim zl ny)]
      rw [eS] at nope ⊢
      generalize lowN (bX N s r t i) (bY N s r t i) 0 = c at l1 nope ⊢
      generalize lowN (bX N s r t i) (bY N s r t i) 1 = e at l2 nope ⊢
      unfold f_X9_bound_263
      by_cases b0 : b = 0
      · rw [if_pos (show lg_cmp (lN b) 0 = 0 by rw [lg_eq0, b0]; rfl), if_pos b0]
        exact skip c e l1 l2
      · rw [if_neg (show ¬ lg_cmp (lN b) 0 = 0 by rw [lg_eq0, lN_e0 (by omega)]; exact b0), if_neg b0]
        have bad : ∀ u w : Int64, (∃ o, (if lg_cmp u w ≤ 0 then f_X9_bound_271 K 108 (nI r) (nI t) part (lN a) (lN b) (nI i) (sI h 108 38 1) else f_X9_bound_271 K 108 (nI r) (nI t) part (lN c) (lN e) (nI i) (sI h 108 38 1)) = some (-9223372036854775808, o) ∧ (o = h ∨ o = sI h 108 38 1)) := fun u w => by
          by_cases q : lg_cmp u w ≤ 0
          · rw [if_pos q]
            exact over a b ha hb
          · rw [if_neg q]
            exact over c e l1 l2
        by_cases o1 : c * b < 2 ^ 63
        · rw [times9s h (by omega) (by omega) o1, Option.bind_some]
          dsimp only
          by_cases o2 : a * e < 2 ^ 63
          · rw [times9s h (by omega) (by omega) o2, Option.bind_some, if_pos (show c * b < 2 ^ 63 ∧ a * e < 2 ^ 63 from ⟨o1, o2⟩)]
            dsimp only
            by_cases le : c * b ≤ a * e
            · rw [if_pos (show lg_cmp (lN (c * b)) (lN (a * e)) ≤ 0 by rw [lg_le, pk_lLT o2 o1]; omega), if_pos le]
              exact skip a b ha hb
            · rw [if_neg (show ¬ lg_cmp (lN (c * b)) (lN (a * e)) ≤ 0 by rw [lg_le, pk_lLT o2 o1]; omega), if_neg le]
              exact skip c e l1 l2
          · rw [times9n h (by omega) (by omega) o2, Option.bind_some, if_neg (show ¬ (c * b < 2 ^ 63 ∧ a * e < 2 ^ 63) from fun w => o2 w.2)]
            dsimp only
            obtain ⟨o, eo, oo⟩ := bad (lN (c * b)) (lN 0)
            refine ⟨o, eo.trans ?_, oo⟩
            split <;> rfl
        · rw [times9n h (by omega) (by omega) o1, Option.bind_some, if_neg (show ¬ (c * b < 2 ^ 63 ∧ a * e < 2 ^ 63) from fun w => o1 w.1)]
          dsimp only
          by_cases o2 : a * e < 2 ^ 63
          · rw [times9s _ (by omega) (by omega) o2, Option.bind_some]
            dsimp only
            obtain ⟨o, eo, oo⟩ := bad (lN 0) (lN (a * e))
            refine ⟨o, eo.trans ?_, oo⟩
            split <;> rfl
          · rw [times9n _ (by omega) (by omega) o2, Option.bind_some, sI_sI]
            dsimp only
            obtain ⟨o, eo, oo⟩ := bad (lN 0) (lN 0)
            refine ⟨o, eo.trans ?_, oo⟩
            split <;> rfl
