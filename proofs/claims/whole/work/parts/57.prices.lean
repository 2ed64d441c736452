theorem lg_eq0 {x y : Int64} : lg_cmp x y = 0 ↔ x = y := by
  unfold lg_cmp
  by_cases h1 : x > y
  · rw [if_pos h1]
    have : ¬ x = y := fun h => by rw [h] at h1; exact absurd h1 Int64.lt_irrefl
    simp [this]
  · rw [if_neg h1]
    by_cases h2 : x = y
    · rw [if_pos h2]
      simp [h2]
    · rw [if_neg h2]
      simp [h2]
theorem lg_le {x y : Int64} : lg_cmp x y ≤ 0 ↔ ¬ y < x := by
  rw [← Int32.not_lt, lg_gt]
theorem lg_ge {x y : Int64} : 0 ≤ lg_cmp x y ↔ ¬ x < y := by
  rw [← Int32.not_lt, lg_lt]
theorem l0 : (0 : Int64) = lN 0 := rfl
theorem lN_e0 {n : Nat} (h : n < 2 ^ 63) : lN n = 0 ↔ n = 0 := by
  rw [l0, pk_lEQ h (by decide)]
/-- the part of a mark above its line -/
def mrk (N : Nat → Nat) (w n : Nat) : Nat := if w = 0 then n else if w = 1 then 2 * n - 1 else if w = 2 then n - 1 else if w = 3 then n * (n - 1) else if w = 4 then 2 * n * (n - 1) else N 43 * (n - 1) + N 42
/-- the part of a price above its line -/
def pay (N : Nat → Nat) (w v n : Nat) : Nat := if w = 1 then v * 2 else if w = 2 then v else if w = 3 then v * v else if w = 4 then v * (2 * n - 1) else if w = 5 then v * N 43 else v
theorem Vn.w {N : Nat → Nat} (v : Vn N) : N 41 ≤ 6 := v.1 41 (by decide)
theorem Vn.a {N : Nat → Nat} (v : Vn N) : N 42 ≤ 99 := v.1 42 (by decide)
theorem Vn.b {N : Nat → Nat} (v : Vn N) : N 43 ≤ 99 := v.1 43 (by decide)
theorem way_cases {w : Nat} (h : w ≤ 6) : w = 0 ∨ w = 1 ∨ w = 2 ∨ w = 3 ∨ w = 4 ∨ w = 5 ∨ w = 6 := by omega
theorem mark8 {h : Hp} {p : Nat} {N : Nat → Nat} (a : Pc h p N) (v : Vn N) {w n : Nat} (hw : w ≤ 6) (h1 : 1 ≤ n) (h2 : n ≤ 1000) : f_X3_markAbove p (nI w) (nI n) h = some (lN (mrk N w n), h) := by
  obtain ⟨m, rfl⟩ : ∃ m, n = m + 1 := ⟨n - 1, by omega⟩
  have ea : h.1 p 6 = nI (N 42) := a 42 (by decide)
  have eb : h.1 p 7 = nI (N 43) := a 43 (by decide)
  have q1 := v.a
  have q2 := v.b
  have l2 : (2 : Int64) = lN 2 := rfl
  have l1 : (1 : Int64) = lN 1 := rfl
  unfold f_X3_markAbove
  rcases way_cases hw with rfl | rfl | rfl | rfl | rfl | rfl | rfl
  · rw [if_pos (by decide), nI_l (by omega)]
    rfl
  · rw [if_neg (by decide), if_pos (by decide), nI_l (by omega), l2, lN_mul, l1, lN_sub (by omega)]
    rfl
  · rw [if_neg (by decide), if_neg (by decide), if_pos (by decide), nI_pred, nI_l (by omega)]
    rfl
  · rw [if_neg (by decide), if_neg (by decide), if_neg (by decide), if_pos (by decide), nI_pred, nI_l (by omega), nI_l (by omega), lN_mul]
    rfl
  · rw [if_neg (by decide), if_neg (by decide), if_neg (by decide), if_neg (by decide), if_pos (by decide), nI_pred, nI_l (by omega), nI_l (by omega), l2, lN_mul, lN_mul]
    rfl
  · rw [if_neg (by decide), if_neg (by decide), if_neg (by decide), if_neg (by decide), if_neg (by decide), nI_pred, ea, eb, nI_l (by omega), nI_l (by omega), nI_l (by omega), lN_mul, lN_add]
    rfl
  · rw [if_neg (by decide), if_neg (by decide), if_neg (by decide), if_neg (by decide), if_neg (by decide), nI_pred, ea, eb, nI_l (by omega), nI_l (by omega), nI_l (by omega), lN_mul, lN_add]
    rfl
theorem pay8 {h : Hp} {p : Nat} {N : Nat → Nat} (a : Pc h p N) (v : Vn N) {w n u : Nat} (hw : w ≤ 6) (h1 : 1 ≤ n) (h2 : n ≤ 1000) : f_X3_priceAbove p (nI w) (lN u) (nI n) h = some (lN (pay N w u n), h) := by
  have eb : h.1 p 7 = nI (N 43) := a 43 (by decide)
  have q2 := v.b
  have l2 : (2 : Int64) = lN 2 := rfl
  have l1 : (1 : Int64) = lN 1 := rfl
  unfold f_X3_priceAbove
  rcases way_cases hw with rfl | rfl | rfl | rfl | rfl | rfl | rfl
  · rw [if_neg (by decide), if_neg (by decide), if_neg (by decide), if_neg (by decide), if_neg (by decide)]
    rfl
  · rw [if_pos (by decide), l2, lN_mul]
    rfl
  · rw [if_neg (by decide), if_pos (by decide)]
    rfl
  · rw [if_neg (by decide), if_neg (by decide), if_pos (by decide), lN_mul]
    rfl
  · rw [if_neg (by decide), if_neg (by decide), if_neg (by decide), if_pos (by decide), nI_l (by omega), l2, lN_mul, l1, lN_sub (by omega), lN_mul]
    rfl
  · rw [if_neg (by decide), if_neg (by decide), if_neg (by decide), if_neg (by decide), if_pos (by decide), eb, nI_l (by omega), lN_mul]
    rfl
  · rw [if_neg (by decide), if_neg (by decide), if_neg (by decide), if_neg (by decide), if_neg (by decide)]
    rfl
theorem above9 {h : Hp} {N : Nat → Nat} (b : Po h 109 N) {w n : Nat} (hw : w ≤ 6) (h1 : 1 ≤ n) : f_X9_above 108 (nI w) (nI n) h = some (nI (mrk N w n), h) := by
  obtain ⟨m, rfl⟩ : ∃ m, n = m + 1 := ⟨n - 1, by omega⟩
  have ea : h.1 (108 + 1) (Int32.toNatClampNeg 42) = nI (N 42) := b 42 (by decide)
  have eb : h.1 (108 + 1) (Int32.toNatClampNeg 43) = nI (N 43) := b 43 (by decide)
  have l2 : (2 : Int32) = nI 2 := rfl
  unfold f_X9_above
  rcases way_cases hw with rfl | rfl | rfl | rfl | rfl | rfl | rfl
  · rw [if_pos (by decide)]
    rfl
  · rw [if_neg (by decide), if_pos (by decide), l2, pk_mul, show 2 * (m + 1) = (2 * m + 1) + 1 by omega, nI_pred]
    unfold mrk
    rw [if_neg (by decide), if_pos rfl, show 2 * (m + 1) - 1 = 2 * m + 1 by omega]
  · rw [if_neg (by decide), if_neg (by decide), if_pos (by decide), nI_pred]
    rfl
  · rw [if_neg (by decide), if_neg (by decide), if_neg (by decide), if_pos (by decide), nI_pred, pk_mul]
    rfl
  · rw [if_neg (by decide), if_neg (by decide), if_neg (by decide), if_neg (by decide), if_pos (by decide), nI_pred, l2, pk_mul, pk_mul]
    rfl
  · rw [if_neg (by decide), if_neg (by decide), if_neg (by decide), if_neg (by decide), if_neg (by decide), if_pos (by decide), if_pos (by decide), nI_pred, ea, eb, pk_mul, nI_add]
    rfl
  · rw [if_neg (by decide), if_neg (by decide), if_neg (by decide), if_neg (by decide), if_neg (by decide), if_pos (by decide), if_pos (by decide), nI_pred, ea, eb, pk_mul, nI_add]
    rfl
def blw (N : Nat → Nat) (w n : Nat) : Nat := if w = 1 then 2 else if w = 4 then 2 * n - 1 else if w = 5 then N 43 else 1
theorem below9 {h : Hp} {N : Nat → Nat} (b : Po h 109 N) {w n : Nat} (hw : w ≤ 6) (h1 : 1 ≤ n) : f_X9_below 108 (nI w) (nI n) h = some (nI (blw N w n), h) := by
  obtain ⟨m, rfl⟩ : ∃ m, n = m + 1 := ⟨n - 1, by omega⟩
  have eb : h.1 (108 + 1) (Int32.toNatClampNeg 43) = nI (N 43) := b 43 (by decide)
  have l2 : (2 : Int32) = nI 2 := rfl
  unfold f_X9_below
  rcases way_cases hw with rfl | rfl | rfl | rfl | rfl | rfl | rfl
  · rw [if_neg (by decide), if_neg (by decide), if_neg (by decide), if_neg (by decide), if_neg (by decide)]
    rfl
  · rw [if_pos (by decide)]
    rfl
  · rw [if_neg (by decide), if_pos (by decide)]
    rfl
  · rw [if_neg (by decide), if_neg (by decide), if_pos (by decide)]
    rfl
  · rw [if_neg (by decide), if_neg (by decide), if_neg (by decide), if_pos (by decide), l2, pk_mul, show 2 * (m + 1) = (2 * m + 1) + 1 by omega, nI_pred]
    unfold blw
    rw [if_neg (by decide), if_pos rfl, show 2 * (m + 1) - 1 = 2 * m + 1 by omega]
  · rw [if_neg (by decide), if_neg (by decide), if_neg (by decide), if_neg (by decide), if_pos (by decide), if_pos (by decide), eb]
    rfl
  · rw [if_neg (by decide), if_neg (by decide), if_neg (by decide), if_neg (by decide), if_neg (by decide)]
    rfl
theorem blw_le {N : Nat → Nat} (v : Vn N) (w : Nat) {n : Nat} (h2 : n ≤ 1000) : blw N w n ≤ 2000 := by
  have := v.b
  unfold blw
  repeat' split
  all_goals omega
theorem pay_blw {N : Nat → Nat} {w : Nat} (hw : w ≤ 6) (h3 : w ≠ 3) (u n : Nat) : pay N w u n = u * blw N w n := by
  unfold pay blw
  rcases way_cases hw with rfl | rfl | rfl | rfl | rfl | rfl | rfl
  · simp
  · simp
  · simp
  · exact absurd rfl h3
  · simp
  · simp
  · simp
theorem top9 {h : Hp} {N : Nat → Nat} (b : Po h 109 N) (v : Vn N) {w n u : Nat} (hw : w ≤ 6) (h1 : 1 ≤ n) (h2 : n ≤ 1000) : f_X9_top 108 (nI w) (lN u) (nI n) h = some (lN (pay N w u n), h) := by
  have q := blw_le v w h2
  unfold f_X9_top
  by_cases e : w = 3
  · subst e
    rw [if_pos (by decide), lN_mul]
    rfl
  · rw [if_neg (by rw [show (3 : Int32) = nI 3 from rfl, nI_eq (by omega) (by omega)]; exact e), below9 b hw h1, Option.bind_some]
    dsimp only
    rw [nI_l (by omega), lN_mul, pay_blw hw e]
theorem mrk_le {N : Nat → Nat} (v : Vn N) {w n : Nat} (h2 : n ≤ 300) : mrk N w n ≤ 180000 := by
  have q1 := v.a
  have q2 := v.b
  have m1 : n * (n - 1) ≤ 300 * 299 := Nat.mul_le_mul h2 (by omega)
  have m2 : N 43 * (n - 1) ≤ 99 * 299 := Nat.mul_le_mul q2 (by omega)
  unfold mrk
  repeat' split
  · omega
  · omega
  · omega
  · omega
  · rw [Nat.mul_assoc]
    omega
  · omega
theorem pay_le {N : Nat → Nat} (v : Vn N) {w u n : Nat} (hu : u ≤ 2400000) (h2 : n ≤ 300) : pay N w u n ≤ 5760000000000 := by
  have q2 := v.b
  have m1 : u * u ≤ 2400000 * 2400000 := Nat.mul_le_mul hu hu
  have m2 : u * (2 * n - 1) ≤ 2400000 * 600 := Nat.mul_le_mul hu (by omega)
  have m3 : u * N 43 ≤ 2400000 * 99 := Nat.mul_le_mul hu q2
  unfold pay
  repeat' split
  all_goals omega
/-! the greatest common divisor -/
theorem rem_half {a b r : Nat} (hr : r = a % b) (h0 : 0 < r) (hb : 0 < b) : 2 * (b % r) < b + 0 ∧ r < b := by
  have h1 : r < b := by rw [hr]; exact Nat.mod_lt _ hb
  have h2 : b % r < r := Nat.mod_lt _ h0
  have h3 : b % r ≤ b - r := by
    have : b % r = (b - r) % r := by rw [Nat.mod_eq_sub_mod (Nat.le_of_lt h1)]
    rw [this]
    exact Nat.mod_le _ _
  omega
theorem gcd_st (a b : Nat) : Nat.gcd b (a % b) = Nat.gcd a b := by
  rw [Nat.gcd_comm b, ← Nat.gcd_rec, Nat.gcd_comm]
theorem lg_z : lg_cmp (lN 0) 0 = 0 := lg_eq0.mpr rfl
theorem gcd8 (h : Hp) : ∀ (m a b s n : Nat), a < 2 ^ 63 → b < 2 ^ m → m ≤ 62 → s + 2 * m < 100 → 2 * m < n → lp (F := Int64 → Int64 → Int32 → Hp → Option (Int64 × Hp)) (fun _ _ _ _ => none) f_X8_commonDivisor_9 n (lN a) (lN b) (nI s) h = some (lN (Nat.gcd a b), h) := by
  have stop : ∀ a s n, s < 100 → 0 < n → lp (F := Int64 → Int64 → Int32 → Hp → Option (Int64 × Hp)) (fun _ _ _ _ => none) f_X8_commonDivisor_9 n (lN a) (lN 0) (nI s) h = some (lN a, h) := fun a s n hs hn => by
    obtain ⟨k, rfl⟩ : ∃ k, n = k + 1 := ⟨n - 1, by omega⟩
    show f_X8_commonDivisor_9 _ (lN a) (lN 0) (nI s) h = _
    unfold f_X8_commonDivisor_9
    rw [if_neg (show ¬ (100 : Int32) ≤ nI s from nI_ge hs (by decide)), if_pos lg_z]
    rfl
  have step : ∀ a b s n, a < 2 ^ 63 → b < 2 ^ 63 → 0 < b → s < 100 → lp (F := Int64 → Int64 → Int32 → Hp → Option (Int64 × Hp)) (fun _ _ _ _ => none) f_X8_commonDivisor_9 (n + 1) (lN a) (lN b) (nI s) h = lp (F := Int64 → Int64 → Int32 → Hp → Option (Int64 × Hp)) (fun _ _ _ _ => none) f_X8_commonDivisor_9 n (lN b) (lN (a % b)) (nI (s + 1)) h := fun a b s n ha hb h0 hs => by
    show f_X8_commonDivisor_9 _ (lN a) (lN b) (nI s) h = _
    unfold f_X8_commonDivisor_9
    have z : ¬ lN b = 0 := by rw [lN_e0 hb]; omega
    rw [if_neg (show ¬ (100 : Int32) ≤ nI s from nI_ge hs (by decide)), if_neg (by rw [lg_eq0]; exact z), if_neg z]
    simp only [lt, nI_1, pk_lRem ha h0 hb]
  intro m
  induction m with
  | zero =>
    intro a b s n ha hb hm hs hn
    have : b = 0 := by simpa using hb
    subst this
    rw [stop a s n (by omega) (by omega), Nat.gcd_zero_right]
  | succ m ih =>
    intro a b s n ha hb hm hs hn
    have hp : (2 : Nat) ^ (m + 1) ≤ 2 ^ 63 := Nat.pow_le_pow_right (by decide) (by omega)
    have hp2 : (2 : Nat) ^ (m + 1) = 2 * 2 ^ m := by rw [Nat.pow_succ]; omega
    by_cases h0 : b = 0
    · subst h0
      rw [stop a s n (by omega) (by omega), Nat.gcd_zero_right]
    · obtain ⟨k, rfl⟩ : ∃ k, n = k + 1 := ⟨n - 1, by omega⟩
      rw [step a b s k ha (by omega) (by omega) (by omega), ← gcd_st a b]
      by_cases h1 : a % b = 0
      · rw [h1, stop b (s + 1) k (by omega) (by omega), Nat.gcd_zero_right]
      · obtain ⟨j, rfl⟩ : ∃ j, k = j + 1 := ⟨k - 1, by omega⟩
        have q := rem_half (a := a) (b := b) rfl (by omega) (by omega)
        rw [step b (a % b) (s + 1) j (by omega) (by omega) (by omega) (by omega), ← gcd_st b (a % b)]
        exact ih _ _ _ _ (by omega) (by omega) (by omega) (by omega) (by omega)
theorem gcd9 (h : Hp) : ∀ (m a b n : Nat), a < 2 ^ 63 → b < 2 ^ m → m ≤ 62 → 2 * m < n → lp (F := Int64 → Int64 → Hp → Option (Int64 × Hp)) (fun _ _ _ => none) f_X9_divisor_6 n (lN a) (lN b) h = some (lN (Nat.gcd a b), h) := by
  have stop : ∀ a n, 0 < n → lp (F := Int64 → Int64 → Hp → Option (Int64 × Hp)) (fun _ _ _ => none) f_X9_divisor_6 n (lN a) (lN 0) h = some (lN a, h) := fun a n hn => by
    obtain ⟨k, rfl⟩ : ∃ k, n = k + 1 := ⟨n - 1, by omega⟩
    show f_X9_divisor_6 _ (lN a) (lN 0) h = _
    unfold f_X9_divisor_6
    rw [if_pos lg_z]
  have step : ∀ a b n, a < 2 ^ 63 → b < 2 ^ 63 → 0 < b → lp (F := Int64 → Int64 → Hp → Option (Int64 × Hp)) (fun _ _ _ => none) f_X9_divisor_6 (n + 1) (lN a) (lN b) h = lp (F := Int64 → Int64 → Hp → Option (Int64 × Hp)) (fun _ _ _ => none) f_X9_divisor_6 n (lN b) (lN (a % b)) h := fun a b n ha hb h0 => by
    show f_X9_divisor_6 _ (lN a) (lN b) h = _
    unfold f_X9_divisor_6
    have z : ¬ lN b = 0 := by rw [lN_e0 hb]; omega
    rw [if_neg (by rw [lg_eq0]; exact z), if_neg z]
    simp only [lt, pk_lRem ha h0 hb]
  intro m
  induction m with
  | zero =>
    intro a b n ha hb hm hn
    have : b = 0 := by simpa using hb
    subst this
    rw [stop a n (by omega), Nat.gcd_zero_right]
  | succ m ih =>
    intro a b n ha hb hm hn
    have hp : (2 : Nat) ^ (m + 1) ≤ 2 ^ 63 := Nat.pow_le_pow_right (by decide) (by omega)
    have hp2 : (2 : Nat) ^ (m + 1) = 2 * 2 ^ m := by rw [Nat.pow_succ]; omega
    by_cases h0 : b = 0
    · subst h0
      rw [stop a n (by omega), Nat.gcd_zero_right]
    · obtain ⟨k, rfl⟩ : ∃ k, n = k + 1 := ⟨n - 1, by omega⟩
      rw [step a b k ha (by omega) (by omega), ← gcd_st a b]
      by_cases h1 : a % b = 0
      · rw [h1, stop b k (by omega), Nat.gcd_zero_right]
      · obtain ⟨j, rfl⟩ : ∃ j, k = j + 1 := ⟨k - 1, by omega⟩
        have q := rem_half (a := a) (b := b) rfl (by omega) (by omega)
        rw [step b (a % b) j (by omega) (by omega) (by omega), ← gcd_st b (a % b)]
        exact ih _ _ _ (by omega) (by omega) (by omega) (by omega)
theorem cd8 {a b : Nat} (h : Hp) (ha : a < 2 ^ 63) (hb : b < 2 ^ 49) : f_X8_commonDivisor (lN a) (lN b) h = some (lN (Nat.gcd a b), h) := gcd8 h 49 a b 0 1000 ha hb (by decide) (by decide) (by decide)
/-- a part of a fraction in lowest terms -/
def lowN (a b : Nat) (part : Int32) : Nat := if part = 0 then a / Nat.gcd a b else b / Nat.gcd a b
theorem lowest8 {a b : Nat} (h : Hp) (ha : a < 2 ^ 63) (h0 : 0 < b) (hb : b < 2 ^ 49) (part : Int32) : f_X8_lowest (lN a) (lN b) part h = some (lN (lowN a b part), h) := by
  have g0 : 0 < Nat.gcd a b := Nat.gcd_pos_of_pos_right a h0
  have g1 : Nat.gcd a b ≤ b := Nat.gcd_le_right a h0
  unfold f_X8_lowest
  rw [cd8 h ha hb, Option.bind_some]
  dsimp only
  have z1 : ¬ lN b = 0 := by rw [lN_e0 (by omega)]; omega
  have z2 : ¬ lN (Nat.gcd a b) = 0 := by rw [lN_e0 (by omega)]; omega
  rw [if_neg (by rw [lg_eq0]; exact z1), if_neg (by rw [lg_eq0]; exact z2)]
  unfold lowN
  by_cases e : part = 0
  · rw [if_pos e, if_neg z2, if_pos e, pk_lDiv ha g0 (by omega)]
  · rw [if_neg e, if_neg z2, if_neg e, pk_lDiv (by omega) g0 (by omega)]
theorem lowest8_0 {a : Nat} (h : Hp) (ha : a < 2 ^ 63) (part : Int32) : f_X8_lowest (lN a) (lN 0) part h = some (-9223372036854775808, h) := by
  unfold f_X8_lowest
  rw [cd8 h ha (by decide), Option.bind_some]
  dsimp only
  rw [if_pos lg_z]
theorem lowest9 {a b : Nat} (h : Hp) (ha : a < 2 ^ 63) (h0 : 0 < b) (hb : b < 2 ^ 49) (part : Int32) : f_X9_lowest (lN a) (lN b) part h = some (lN (lowN a b part), h) := by
  have g0 : 0 < Nat.gcd a b := Nat.gcd_pos_of_pos_right a h0
  have g1 : Nat.gcd a b ≤ b := Nat.gcd_le_right a h0
  unfold f_X9_lowest f_X9_divisor
  rw [gcd9 h 49 a b 1000 ha hb (by decide) (by decide), Option.bind_some]
  dsimp only
  have z2 : ¬ lN (Nat.gcd a b) = 0 := by rw [lN_e0 (by omega)]; omega
  unfold lowN
  by_cases e : part = 0
  · rw [if_pos e, if_neg z2, if_pos e, pk_lDiv ha g0 (by omega)]
  · rw [if_neg e, if_neg z2, if_neg e, pk_lDiv (by omega) g0 (by omega)]
def sgn (a b : Nat) : Int32 := if a < b then -1 else if a = b then 0 else 1
/-- 1: the first price is dearer, -1: the other; nothing below the line is dearest -/
def cmpS (a b c d : Nat) : Int32 := if b = 0 then (if d = 0 then sgn a c else 1) else if d = 0 then -1 else sgn (a * d) (c * b)
theorem jcmp {a b : Nat} (h : Hp) (ha : a < 2 ^ 63) (hb : b < 2 ^ 63) : f_J13_compare_74951 (lN a) (lN b) h = some (sgn a b, h) := by
  unfold f_J13_compare_74951 sgn
  by_cases h1 : a < b
  · rw [if_neg (by rw [lg_ge, pk_lLT ha hb]; omega), if_pos h1]
  · rw [if_pos (by rw [lg_ge, pk_lLT ha hb]; omega), if_neg h1]
    by_cases h2 : a = b
    · rw [if_pos (by rw [lg_eq0, h2]), if_pos h2]
    · rw [if_neg (by rw [lg_eq0, pk_lEQ ha hb]; exact h2), if_neg h2]
theorem cmp8 {a b c d : Nat} (h : Hp) (ha : a < 2 ^ 63) (hb : b < 2 ^ 63) (hc : c < 2 ^ 63) (hd : d < 2 ^ 63) (h1 : a * d < 2 ^ 63) (h2 : c * b < 2 ^ 63) : f_X8_comparePrices (lN a) (lN b) (lN c) (lN d) h = some (cmpS a b c d, h) := by
  unfold f_X8_comparePrices f_X8_comparePrices_20 cmpS
  have zb : lg_cmp (lN b) 0 = 0 ↔ b = 0 := by rw [lg_eq0, lN_e0 hb]
  have zd : lg_cmp (lN d) 0 = 0 ↔ d = 0 := by rw [lg_eq0, lN_e0 hd]
  by_cases eb : b = 0
  · rw [if_pos (zb.mpr eb), if_pos (zb.mpr eb), if_pos eb]
    by_cases ed : d = 0
    · rw [if_pos (zd.mpr ed), if_pos ed, jcmp h ha hc]
      rfl
    · rw [if_neg (fun z => ed (zd.mp z)), if_neg ed]
  · rw [if_neg (fun z => eb (zb.mp z)), if_neg (fun z => eb (zb.mp z)), if_neg eb]
    by_cases ed : d = 0
    · rw [if_pos (zd.mpr ed), if_pos ed]
    · rw [if_neg (fun z => ed (zd.mp z)), if_neg ed, lN_mul, lN_mul, jcmp h h1 h2]
      rfl
theorem d95 {a b : Nat} (h : Hp) (ha : a < 2 ^ 63) (hb : b < 2 ^ 63) : f_X9_dearer_95 (lN a) (lN b) h = some (sgn a b, h) := by
  unfold f_X9_dearer_95 sgn
  by_cases h1 : a < b
  · rw [if_pos (by rw [lg_le, pk_lLT hb ha]; omega), if_neg (by rw [lg_ge, pk_lLT ha hb]; omega), if_pos h1]
  · rw [if_neg h1]
    by_cases h2 : a = b
    · rw [if_pos (by rw [lg_le, pk_lLT hb ha]; omega), if_pos (by rw [lg_ge, pk_lLT ha hb]; omega), if_pos h2]
    · rw [if_neg (by rw [lg_le, pk_lLT hb ha]; omega), if_neg h2]
theorem sgn_mono {f : Nat → Nat} (hf : ∀ a b, a < b → f a < f b) (a b : Nat) : sgn (f a) (f b) = sgn a b := by
  unfold sgn
  rcases Nat.lt_trichotomy a b with h | h | h
  · rw [if_pos h, if_pos (hf a b h)]
  · subst h
    rw [if_neg (Nat.lt_irrefl _), if_neg (Nat.lt_irrefl _), if_pos rfl, if_pos rfl]
  · have := hf b a h
    rw [if_neg (by omega), if_neg (by omega), if_neg (by omega), if_neg (by omega)]
theorem mrk0 {N : Nat → Nat} (v : Vn N) {w n : Nat} (hw : w ≤ 6) (h1 : 1 ≤ n) (e : mrk N w n = 0) : n = 1 ∧ w ≠ 0 ∧ w ≠ 1 := by
  obtain ⟨m, rfl⟩ : ∃ m, n = m + 1 := ⟨n - 1, by omega⟩
  have q := v.2.2
  rcases way_cases hw with rfl | rfl | rfl | rfl | rfl | rfl | rfl
  · exact absurd (show m + 1 = 0 from e) (by omega)
  · exact absurd (show 2 * (m + 1) - 1 = 0 from e) (by omega)
  · have e1 : m = 0 := e
    omega
  · have e1 : (m + 1) * m = 0 := e
    rcases Nat.mul_eq_zero.mp e1 with q | q <;> omega
  · have e1 : 2 * (m + 1) * m = 0 := e
    rcases Nat.mul_eq_zero.mp e1 with q | q <;> omega
  · have e1 : N 43 * m + N 42 = 0 := e
    have e2 : N 43 * m = 0 := by omega
    rcases Nat.mul_eq_zero.mp e2 with q | q <;> omega
  · have e1 : N 43 * m + N 42 = 0 := e
    have e2 : N 43 * m = 0 := by omega
    rcases Nat.mul_eq_zero.mp e2 with q | q <;> omega
theorem pay1 {N : Nat → Nat} (v : Vn N) {w : Nat} (hw : w ≤ 6) (a b : Nat) : sgn (pay N w a 1) (pay N w b 1) = sgn a b := by
  have q := v.2.2
  refine sgn_mono (f := fun a => pay N w a 1) (fun a b h => ?_) a b
  show pay N w a 1 < pay N w b 1
  unfold pay
  rcases way_cases hw with rfl | rfl | rfl | rfl | rfl | rfl | rfl
  · simpa using h
  · simp; omega
  · simpa using h
  · simp
    exact Nat.mul_lt_mul'' h h
  · simpa using h
  · simp
    exact Nat.mul_lt_mul_of_pos_right h (by omega)
  · simpa using h
theorem dearer9 {h : Hp} {N : Nat → Nat} (b : Po h 109 N) (v : Vn N) {w n m x y : Nat} (hw : w ≤ 6) (hn1 : 1 ≤ n) (hn2 : n ≤ 300) (hm1 : 1 ≤ m) (hm2 : m ≤ 300) (hx : x ≤ 2400000) (hy : y ≤ 2400000) : f_X9_dearer 108 (nI w) (lN x) (nI n) (lN y) (nI m) h = some (cmpS (pay N w x n) (mrk N w n) (pay N w y m) (mrk N w m), h) := by
  have m1 := mrk_le (N := N) (w := w) v hn2
  have m2 := mrk_le (N := N) (w := w) v hm2
  have p1 := pay_le (N := N) (w := w) v hx hn2
  have p2 := pay_le (N := N) (w := w) v hy hm2
  have t1 : pay N w x n * mrk N w m ≤ 5760000000000 * 180000 := Nat.mul_le_mul p1 m2
  have t2 : pay N w y m * mrk N w n ≤ 5760000000000 * 180000 := Nat.mul_le_mul p2 m1
  have z1 : nI (mrk N w n) = 0 ↔ mrk N w n = 0 := by rw [z0, nI_eq (by omega) (by omega)]
  have z2 : nI (mrk N w m) = 0 ↔ mrk N w m = 0 := by rw [z0, nI_eq (by omega) (by omega)]
  unfold f_X9_dearer f_X9_dearer_28 f_X9_dearer_38 f_X9_dearer_49 f_X9_dearer_70 cmpS
  rw [above9 b hw hn1]
  simp only [Option.bind_some]
  rw [above9 b hw hm1]
  simp only [Option.bind_some]
  rw [top9 b v hw hn1 (by omega)]
  simp only [Option.bind_some]
  rw [top9 b v hw hm1 (by omega)]
  simp only [Option.bind_some]
  rw [nI_l (by omega), nI_l (by omega), lN_mul, lN_mul]
  by_cases e1 : mrk N w n = 0
  · rw [if_pos (z1.mpr e1), if_pos e1, if_pos (z1.mpr e1), if_pos (z1.mpr e1), if_pos (z1.mpr e1), if_pos (z1.mpr e1)]
    by_cases e2 : mrk N w m = 0
    · rw [if_pos (z2.mpr e2), if_pos e2, (mrk0 v hw hn1 e1).1, (mrk0 v hw hm1 e2).1, pay1 v hw]
      exact d95 h (by omega) (by omega)
    · rw [if_neg (fun z => e2 (z2.mp z)), if_neg e2]
  · rw [if_neg (fun z => e1 (z1.mp z)), if_neg e1, if_neg (fun z => e1 (z1.mp z)), if_neg (fun z => e1 (z1.mp z)), if_neg (fun z => e1 (z1.mp z)), if_neg (fun z => e1 (z1.mp z))]
    by_cases e2 : mrk N w m = 0
    · rw [if_pos (z2.mpr e2), if_pos e2]
    · rw [if_neg (fun z => e2 (z2.mp z)), if_neg e2]
      exact d95 h (by omega) (by omega)
section PRICE
variable {PK : (Nat → Nat) → Hp → Prop}
theorem same_opL {F G : Hp → Option (Int64 × Hp)} {h : Hp} {r : Int64} (hR : Rel PK h) (e1 : F h = some (r, h)) (e2 : G h = some (r, h)) : ∃ r h1 h2, F h = some (r, h1) ∧ G h1 = some (r, h2) ∧ Rel PK h2 := ⟨r, h, h, e1, e2, hR⟩
theorem isPart_in {x : Int32} (h : Hp) (e : x = 0 ∨ x = 1) : f_X9_isPart x h = some (1, h) ∧ f_X8_within x 1 h = some (1, h) := by
  rcases e with rfl | rfl
  · exact ⟨rfl, w8_in (j := 0) (n := 1) h (by decide) (by decide)⟩
  · exact ⟨rfl, w8_in (j := 1) (n := 1) h (by decide) (by decide)⟩
theorem isPart_out {x : Int32} (h : Hp) (e : ¬ (x = 0 ∨ x = 1)) : f_X9_isPart x h = some (0, h) ∧ f_X8_within x 1 h = some (0, h) := by
  constructor
  · unfold f_X9_isPart
    rw [if_neg (fun z => e (Or.inl z)), if_neg (fun z => e (Or.inr z))]
    rfl
  · rcases rng x 1 (by decide) with ⟨j, hj, rfl⟩ | o
    · rcases (show j = 0 ∨ j = 1 by omega) with rfl | rfl
      · exact absurd (Or.inl rfl) e
      · exact absurd (Or.inr rfl) e
    · exact w8_out (n := 1) h o
theorem op_price (z1 z2 z3 : Int32) : Op (Rel PK) (fun h => f_X8_price 0 z1 z2 z3 h) (fun h => f_X9_price 108 z1 z2 z3 h) := by
  intro h ⟨N, hR⟩
  have a := hR.2.1
  have b := hR.2.2.1
  have v := hR.1
  have ew : h.1 (0 + 1) 5 = nI (N 41) := a 41 (by decide)
  have hw := v.w
  rcases rng z1 5 (by decide) with ⟨q, hq, rfl⟩ | o1
  · have e1 := isPartyi h hq
    have e2 := w8_in (j := q) (n := 5) h hq (by decide)
    rcases rng z2 60 (by decide) with ⟨n, hn, rfl⟩ | o2
    · by_cases hn1 : 1 ≤ n
      · have c1 : ¬ nI n < 1 := nI_nlt (b := 1) hn1 (by omega)
        have c2 : ¬ 60 < nI n := nI_nlt (a := 60) (b := n) hn (by omega)
        have e3 := w9i_1_60 h hn1 hn
        by_cases o3 : z3 = 0 ∨ z3 = 1
        · have e4 := isPart_in h o3
          by_cases h6 : N 41 = 6
          · refine same_opL (r := -9223372036854775808) ⟨N, hR⟩ ?_ ?_
            · show f_X8_price 0 (nI q) (nI n) z3 h = _
              unfold f_X8_price
              rw [show (5 : Int32) = nI 5 from rfl, e2]
              simp only [Option.bind_some, one_ne, if_false, c1, c2, e4.2, ew, h6]
              rfl
            · show f_X9_price 108 (nI q) (nI n) z3 h = _
              unfold f_X9_price
              rw [e1]
              simp only [Option.bind_some, one_ne, if_false, e3, e4.1, wayNow9 b, h6]
              rfl
          · have n6 : ¬ nI (N 41) = 6 := by rw [show (6 : Int32) = nI 6 from rfl, nI_eq (by omega) (by omega)]; exact h6
            have t1 := tot_le v (show q < 6 by omega)
            have m1 := mrk_le (N := N) (w := N 41) (n := n) v (by omega)
            have p1 := pay_le (N := N) (w := N 41) (u := tot N q) (n := n) v (by omega) (by omega)
            have E8 : f_X8_price 0 (nI q) (nI n) z3 h = (f_X8_lowest (lN (pay N (N 41) (tot N q) n)) (lN (mrk N (N 41) n)) z3 h).bind (fun q6 => some (q6.1, q6.2)) := by
              unfold f_X8_price
              rw [show (5 : Int32) = nI 5 from rfl, e2]
              simp only [Option.bind_some, one_ne, if_false, c1, c2, e4.2, ew, n6]
              rw [show (0 + 1 : Nat) = 1 from rfl] at ew ⊢
              rw [tot8 a (by omega)]
              simp only [Option.bind_some]
              rw [nI_l (by omega), pay8 a v hw hn1 (by omega)]
              simp only [Option.bind_some]
              rw [ew, mark8 a v hw hn1 (by omega)]
              simp only [Option.bind_some]
            have z : nI (mrk N (N 41) n) = 0 ↔ mrk N (N 41) n = 0 := by rw [z0, nI_eq (by omega) (by omega)]
            by_cases m0 : mrk N (N 41) n = 0
            · refine same_opL (r := -9223372036854775808) ⟨N, hR⟩ ?_ ?_
              · rw [E8, m0, lowest8_0 h (by omega)]
                rfl
              · show f_X9_price 108 (nI q) (nI n) z3 h = _
                unfold f_X9_price
                rw [e1]
                simp only [Option.bind_some, one_ne, if_false, e3, e4.1, wayNow9 b, n6, above9 b hw hn1]
                rw [if_pos (z.mpr m0)]
            · refine same_opL (r := lN (lowN (pay N (N 41) (tot N q) n) (mrk N (N 41) n) z3)) ⟨N, hR⟩ ?_ ?_
              · rw [E8, lowest8 h (by omega) (by omega) (by omega)]
                rfl
              · show f_X9_price 108 (nI q) (nI n) z3 h = _
                unfold f_X9_price
                rw [e1]
                simp only [Option.bind_some, one_ne, if_false, e3, e4.1, wayNow9 b, n6, above9 b hw hn1]
                rw [if_neg (fun y => m0 (z.mp y)), tot9 b (by omega)]
                simp only [Option.bind_some]
                rw [nI_l (by omega), top9 b v hw hn1 (by omega)]
                simp only [Option.bind_some, wayNow9 b, above9 b hw hn1]
                rw [nI_l (by omega), lowest9 h (by omega) (by omega) (by omega)]
                rfl
        · have e4 := isPart_out h o3
          refine same_opL (r := -9223372036854775808) ⟨N, hR⟩ ?_ ?_
          · show f_X8_price 0 (nI q) (nI n) z3 h = _
            unfold f_X8_price
            rw [show (5 : Int32) = nI 5 from rfl, e2]
            simp only [Option.bind_some, one_ne, if_false, c1, c2, e4.2, if_true]
          · show f_X9_price 108 (nI q) (nI n) z3 h = _
            unfold f_X9_price
            rw [e1]
            simp only [Option.bind_some, one_ne, if_false, e3, e4.1, if_true]
      · have hb0 : n = 0 := by omega
        subst hb0
        refine same_opL (r := -9223372036854775808) ⟨N, hR⟩ ?_ ?_
        · show f_X8_price 0 (nI q) (nI 0) z3 h = _
          unfold f_X8_price
          rw [show (5 : Int32) = nI 5 from rfl, e2]
          simp only [Option.bind_some, one_ne, if_false]
          rw [if_pos (by decide)]
        · show f_X9_price 108 (nI q) (nI 0) z3 h = _
          unfold f_X9_price
          rw [e1]
          simp only [Option.bind_some, one_ne, if_false, w9o_1_60 h (show nI 0 < nI 1 ∨ nI 60 < nI 0 from Or.inl (by decide)), if_true]
    · have o3 : z2 < nI 1 ∨ nI 60 < z2 := by
        rcases o2 with o2 | o2
        · exact Or.inl (Int32.lt_trans o2 (by decide))
        · exact Or.inr o2
      refine same_opL (r := -9223372036854775808) ⟨N, hR⟩ ?_ ?_
      · show f_X8_price 0 (nI q) z2 z3 h = _
        unfold f_X8_price
        rw [show (5 : Int32) = nI 5 from rfl, e2]
        simp only [Option.bind_some, one_ne, if_false]
        by_cases z : z2 < 1
        · rw [if_pos z]
        · rw [if_neg z, if_pos (show 60 < z2 from o3.resolve_left z)]
      · show f_X9_price 108 (nI q) z2 z3 h = _
        unfold f_X9_price
        rw [e1]
        simp only [Option.bind_some, one_ne, if_false, w9o_1_60 h o3, if_true]
  · refine same_opL (r := -9223372036854775808) ⟨N, hR⟩ ?_ ?_
    · show f_X8_price 0 z1 z2 z3 h = _
      unfold f_X8_price
      rw [show (5 : Int32) = nI 5 from rfl, w8_out (n := 5) h o1]
      simp only [Option.bind_some, if_true]
    · show f_X9_price 108 z1 z2 z3 h = _
      unfold f_X9_price
      rw [isPartyo h o1]
      simp only [Option.bind_some, if_true]
end PRICE
