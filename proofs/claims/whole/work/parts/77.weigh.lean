/-- how many ahead of i -/
def cQ (Q : Nat → Bool) : Nat → Nat
  | 0 => 0
  | i + 1 => cQ Q i + (if Q i = true then 1 else 0)
theorem cQ_t {Q : Nat → Bool} {i : Nat} (h : Q i = true) : cQ Q (i + 1) = cQ Q i + 1 := by
  show cQ Q i + (if Q i = true then 1 else 0) = _
  rw [if_pos h]
theorem cQ_f {Q : Nat → Bool} {i : Nat} (h : Q i = false) : cQ Q (i + 1) = cQ Q i := by
  show cQ Q i + (if Q i = true then 1 else 0) = _
  rw [if_neg (by rw [h]; decide)]
  rfl
theorem cQ_le (Q : Nat → Bool) : ∀ i, cQ Q i ≤ i := by
  intro i
  induction i with
  | zero => exact Nat.le_refl 0
  | succ i ih =>
    show cQ Q i + (if Q i = true then 1 else 0) ≤ i + 1
    split <;> omega
theorem cQ_mono (Q : Nat → Bool) {i : Nat} : ∀ d, cQ Q i ≤ cQ Q (i + d) := by
  intro d
  induction d with
  | zero => exact Nat.le_refl _
  | succ d ih =>
    show _ ≤ cQ Q (i + d) + (if Q (i + d) = true then 1 else 0)
    omega
theorem cQ_lt {Q : Nat → Bool} {i n : Nat} (hi : i < n) (h : Q i = true) : cQ Q i < cQ Q n := by
  have := cQ_mono Q (i := i + 1) (n - (i + 1))
  rw [show i + 1 + (n - (i + 1)) = n by omega, cQ_t h] at this
  omega
/-- a loop over those that count, seen as one over all -/
theorem lp_skipE {F β σ : Type} {bot : F} {G : F → F} (ap : F → Nat → σ → Option β) (n : Nat) (Q : Nat → Bool) (I : Nat → σ → Prop) (R : β → Prop) (hk : ∀ i s, i < n → Q i = false → I i s → I (i + 1) s) (hs : ∀ K i s, i < n → Q i = true → I i s → (∃ s', I (i + 1) s' ∧ ap (G K) (cQ Q i) s = ap K (cQ Q i + 1) s') ∨ ∃ b, ap (G K) (cQ Q i) s = some b ∧ R b) (he : ∀ K s, I n s → ∃ b, ap (G K) (cQ Q n) s = some b ∧ R b) : ∀ (d m i : Nat) (s : σ), i + d = n → d < m → I i s → ∃ b, ap (lp bot G m) (cQ Q i) s = some b ∧ R b := by
  intro d
  induction d with
  | zero =>
    intro m i s h1 h2 h3
    obtain ⟨m, rfl⟩ : ∃ k, m = k + 1 := ⟨m - 1, by omega⟩
    have e : i = n := by omega
    subst e
    exact he _ s h3
  | succ d ih =>
    intro m i s h1 h2 h3
    cases q : Q i with
    | false =>
      have := ih m (i + 1) s (by omega) (by omega) (hk i s (by omega) q h3)
      rw [cQ_f q] at this
      exact this
    | true =>
      obtain ⟨m, rfl⟩ : ∃ k, m = k + 1 := ⟨m - 1, by omega⟩
      show ∃ b, ap (G (lp bot G m)) (cQ Q i) s = some b ∧ R b
      rcases hs (lp bot G m) i s (by omega) q h3 with ⟨s', q1, q2⟩ | q1
      · rw [q2, ← cQ_t q]
        exact ih m (i + 1) s' (by omega) (by omega) q1
      · exact q1
theorem lp_skipK {F R σ : Type} {bot : F} {G : F → F} (ap : F → Nat → σ → R) (n : Nat) (Q : Nat → Bool) (I : Nat → σ → Prop) (e : σ → R) (hk : ∀ i s, i < n → Q i = false → I i s → I (i + 1) s) (hs : ∀ K i s, i < n → Q i = true → I i s → ∃ s', I (i + 1) s' ∧ ap (G K) (cQ Q i) s = ap K (cQ Q i + 1) s') (he : ∀ K s, I n s → ap (G K) (cQ Q n) s = e s) : ∀ (d m i : Nat) (s : σ), i + d = n → d < m → I i s → ∃ s', I n s' ∧ ap (lp bot G m) (cQ Q i) s = e s' := by
  intro d
  induction d with
  | zero =>
    intro m i s h1 h2 h3
    obtain ⟨m, rfl⟩ : ∃ k, m = k + 1 := ⟨m - 1, by omega⟩
    have e : i = n := by omega
    subst e
    exact ⟨s, h3, he _ s h3⟩
  | succ d ih =>
    intro m i s h1 h2 h3
    cases q : Q i with
    | false =>
      have := ih m (i + 1) s (by omega) (by omega) (hk i s (by omega) q h3)
      rw [cQ_f q] at this
      exact this
    | true =>
      obtain ⟨m, rfl⟩ : ∃ k, m = k + 1 := ⟨m - 1, by omega⟩
      show ∃ s', I n s' ∧ ap (G (lp bot G m)) (cQ Q i) s = e s'
      obtain ⟨s', q1, q2⟩ := hs (lp bot G m) i s (by omega) q h3
      rw [q2, ← cQ_t q]
      exact ih m (i + 1) s' (by omega) (by omega) q1
/-! products that would be beyond a long -/
def pm (x : Option Nat) (y : Nat) : Option Nat := match x with
  | none => none
  | some a => if a * y < 2 ^ 63 then some (a * y) else none
def oL : Option Nat → Int64
  | none => -1
  | some a => lN a
def oT : Option Nat → Int64
  | none => 0
  | some a => lN a
def pOk (x : Option Nat) : Prop := ∀ a, x = some a → a < 2 ^ 63
theorem pm_ok {x : Option Nat} {y : Nat} : pOk (pm x y) := fun a e => by
  unfold pm at e
  cases x with
  | none => cases e
  | some b =>
    dsimp only at e
    by_cases h : b * y < 2 ^ 63
    · rw [if_pos h] at e
      cases e
      exact h
    · rw [if_neg h] at e
      cases e
theorem big_div {a y : Nat} (h0 : 0 < y) : (9223372036854775807 / y < a) ↔ ¬ a * y < 2 ^ 63 := by
  rw [Nat.div_lt_iff_lt_mul h0]
  omega
theorem small31 {a b : Nat} (ha : a < 2 ^ 63) (hb : b < 2 ^ 63) (h : ((Int64.toUInt64 (lN a ||| lN b)) >>> ((Int32.toInt64 31).toUInt64 &&& Int64.toUInt64 63)).toInt64 = 0) : a < 2 ^ 31 ∧ b < 2 ^ 31 := by
  have e1 : (((Int64.toUInt64 (lN a ||| lN b)) >>> ((Int32.toInt64 31).toUInt64 &&& Int64.toUInt64 63)).toInt64).toBitVec.toNat = 0 := by rw [h]; rfl
  have e2 : ((Int64.toUInt64 (lN a ||| lN b)) >>> ((Int32.toInt64 31).toUInt64 &&& Int64.toUInt64 63)).toNat = (Int64.toUInt64 (lN a ||| lN b)).toNat >>> 31 := by
    rw [UInt64.toNat_shiftRight]
    rfl
  have e3 : (Int64.toUInt64 (lN a ||| lN b)).toNat = a ||| b := by
    show (lN a ||| lN b).toBitVec.toNat = a ||| b
    rw [Int64.toBitVec_or, BitVec.toNat_or]
    have q : ∀ n, n < 2 ^ 63 → (lN n).toBitVec.toNat = n := fun n hn => by
      show (BitVec.ofNat 64 n).toNat = n
      rw [BitVec.toNat_ofNat]
      exact Nat.mod_eq_of_lt (by omega)
    rw [q a ha, q b hb]
  have e4 : (a ||| b) >>> 31 = 0 := by
    rw [← e3, ← e2]
    exact e1
  rw [Nat.shiftRight_eq_div_pow] at e4
  have e5 : a ||| b < 2 ^ 31 := by
    rcases Nat.lt_or_ge (a ||| b) (2 ^ 31) with q | q
    · exact q
    · have := Nat.div_pos q (by decide : 0 < 2 ^ 31)
      omega
  exact ⟨Nat.lt_of_le_of_lt Nat.left_le_or e5, Nat.lt_of_le_of_lt Nat.right_le_or e5⟩
theorem prod8 {x : Option Nat} {y : Nat} (h : Hp) (hx : pOk x) (hy : y < 2 ^ 63) : f_X8_product (oL x) (lN y) h = some (oL (pm x y), h) := by
  unfold f_X8_product
  cases x with
  | none =>
    rw [if_pos (show lg_cmp (oL none) 0 < 0 from lg_lt.mpr (by decide))]
    rfl
  | some a =>
    have ha := hx a rfl
    show (if lg_cmp (lN a) 0 < 0 then _ else _) = some (oL (if a * y < 2 ^ 63 then some (a * y) else none), h)
    rw [if_neg (by rw [lg_lt, l0, pk_lLT ha (by decide)]; omega), if_pos (by rw [lg_ge, l0, pk_lLT hy (by decide)]; omega)]
    have c59 : a * y < 2 ^ 63 → f_X8_product_59 (lN a) (lN y) h = some (oL (if a * y < 2 ^ 63 then some (a * y) else none), h) := fun q => by
      unfold f_X8_product_59
      rw [if_pos q, lN_mul]
      rfl
    show (if lg_cmp (((Int64.toUInt64 (lN a ||| lN y)) >>> ((Int32.toInt64 31).toUInt64 &&& Int64.toUInt64 63)).toInt64) 0 = 0 then f_X8_product_32 (lN a) (lN y) 0 h else f_X8_product_32 (lN a) (lN y) 1 h) = _
    by_cases z : lg_cmp (((Int64.toUInt64 (lN a ||| lN y)) >>> ((Int32.toInt64 31).toUInt64 &&& Int64.toUInt64 63)).toInt64) 0 = 0
    · rw [if_pos z]
      obtain ⟨s1, s2⟩ := small31 ha hy (lg_eq0.mp z)
      unfold f_X8_product_32
      rw [if_pos rfl]
      refine c59 ?_
      have : a * y ≤ 2 ^ 31 * 2 ^ 31 := Nat.mul_le_mul (Nat.le_of_lt s1) (Nat.le_of_lt s2)
      omega
    · rw [if_neg z]
      unfold f_X8_product_32
      rw [if_neg one_ne]
      by_cases y0 : y = 0
      · rw [if_pos (by rw [lg_eq0, y0]; rfl)]
        exact c59 (by rw [y0, Nat.mul_zero]; decide)
      · have zy : ¬ lN y = 0 := by rw [lN_e0 hy]; exact y0
        rw [if_neg (by rw [lg_eq0]; exact zy), if_neg zy, show (9223372036854775807 : Int64) = lN 9223372036854775807 from rfl, pk_lDiv (by decide) (by omega) hy]
        have hd : 9223372036854775807 / y < 2 ^ 63 := Nat.lt_of_le_of_lt (Nat.div_le_self _ _) (by decide)
        by_cases q : a * y < 2 ^ 63
        · rw [if_pos (by rw [lg_le, pk_lLT hd ha, big_div (by omega)]; exact fun w => w q)]
          exact c59 q
        · rw [if_neg (by rw [lg_le, pk_lLT hd ha, big_div (by omega)]; exact fun w => w q), if_neg q]
          rfl
/-- the reference's flag -/
def hf (h : Hp) (x : Bool) : Hp := if x = true then sI h 108 38 1 else h
theorem hf_row (h : Hp) (x : Bool) {k : Nat} (hk : k ≠ 108) : (hf h x).1 k = h.1 k := by
  unfold hf
  split
  · exact sI_row _ _ _ hk
  · rfl
theorem hf_2 (h : Hp) (x : Bool) : (hf h x).2 = h.2 := by
  unfold hf
  split <;> rfl
theorem hf_108 (h : Hp) (x : Bool) {i : Nat} (hi : i ≠ 38) : (hf h x).1 108 i = h.1 108 i := by
  unfold hf
  split
  · rw [sI1, if_pos rfl, if_neg hi]
  · rfl
theorem hf_hf (h : Hp) (x y : Bool) : hf (hf h x) y = hf h (x || y) := by
  unfold hf
  cases x <;> cases y
  · rfl
  · rfl
  · rfl
  · simp
    exact sI_sI h 108 38 1 1
theorem hf_f (h : Hp) : hf h false = h := rfl
/-- times: flag where it goes beyond for the first time -/
theorem times9 {x : Option Nat} {y : Nat} (h : Hp) (hx : pOk x) (hy : y < 2 ^ 63) : f_X9_times 108 (oT x) (lN y) h = some (oT (pm x y), hf h (x.isSome && (pm x y).isNone)) := by
  unfold f_X9_times f_X9_times_23
  cases x with
  | none =>
    rw [if_pos (show lg_cmp (oT none) 0 ≤ 0 from lg_le.mpr (by decide)), show oT none * lN y = lN (0 * y) from lN_mul 0 y, Nat.zero_mul]
    rfl
  | some a =>
    have ha := hx a rfl
    show (if lg_cmp (lN a) 0 ≤ 0 then some (lN a * lN y, h) else if lN a = 0 then none else _) = some (oT (if a * y < 2 ^ 63 then some (a * y) else none), hf h (true && (if a * y < 2 ^ 63 then some (a * y) else none).isNone))
    by_cases a0 : a = 0
    · subst a0
      rw [if_pos (show lg_cmp (lN 0) 0 ≤ 0 from lg_le.mpr (by decide)), lN_mul, Nat.zero_mul, if_pos (by decide)]
      rfl
    · rw [if_neg (by rw [lg_le, l0, pk_lLT (by decide) ha]; omega), if_neg (by rw [lN_e0 ha]; exact a0), show (9223372036854775807 : Int64) = lN 9223372036854775807 from rfl]
      have hd : 9223372036854775807 / a < 2 ^ 63 := Nat.lt_of_le_of_lt (Nat.div_le_self _ _) (by decide)
      rw [show (oT (some a) : Int64) = lN a from rfl, pk_lDiv (by decide) (by omega) ha]
      by_cases q : a * y < 2 ^ 63
      · rw [if_pos q, if_pos (by rw [lg_le, pk_lLT hd hy, big_div (by omega), Nat.mul_comm]; exact fun w => w q), lN_mul]
        rfl
      · rw [if_neg q, if_neg (by rw [lg_le, pk_lLT hd hy, big_div (by omega), Nat.mul_comm]; exact fun w => w q)]
        rfl
/-- products, factor by factor -/
def prd (f : Nat → Nat) (k : Nat) (x : Option Nat) : Option Nat := fu (fun i x => pm x (f i)) k x
theorem prd_ok {f : Nat → Nat} {x : Option Nat} (hx : pOk x) : ∀ k, pOk (prd f k x) := by
  intro k
  induction k with
  | zero => exact hx
  | succ k ih => exact pm_ok
theorem prd_none (f : Nat → Nat) : ∀ k, prd f k none = none := by
  intro k
  induction k with
  | zero => rfl
  | succ k ih =>
    show pm (prd f k none) (f k) = none
    rw [ih]
    rfl
/-! the ring -/
section RING
variable (N : Nat → Nat) (s : Nat → Nat) (k : Nat) (rw' rp : Nat → Nat)
def gC (i : Nat) : Nat := 6 * rw' i + rp i
def lC (i : Nat) : Nat := 6 * rw' ((i + 1) % k) + rp i
def gnP : Option Nat := prd (fun i => mrk N (N 41) (s (lC k rw' rp i))) k (prd (fun _ => blw N (N 41) 1) k (prd (fun i => N (gC rw' rp i)) k (some 1)))
def lsP : Option Nat := prd (fun i => mrk N (N 41) (s (gC rw' rp i) + 1)) k (prd (fun _ => blw N (N 41) 1) k (prd (fun i => N (lC k rw' rp i)) k (some 1)))
/-- beyond a long: none; else whether it is better -/
def wgh : Option Bool := match gnP N s k rw' rp, lsP N s k rw' rp with
  | some a, some b => some (decide (b < a))
  | _, _ => none
end RING
/-- ways of plans: what is below the line is the same for all seats -/
def planW (w : Nat) : Prop := w = 0 ∨ w = 1 ∨ w = 2 ∨ w = 5
theorem blw_p {N : Nat → Nat} {w : Nat} (h : planW w) (n : Nat) : blw N w n = blw N w 1 := by
  unfold blw
  rcases h with rfl | rfl | rfl | rfl <;> rfl
theorem pay_p {N : Nat → Nat} {w : Nat} (h : planW w) : pay N w 1 1 = blw N w 1 := by
  unfold blw pay
  rcases h with rfl | rfl | rfl | rfl
  · rfl
  · rfl
  · rfl
  · show 1 * N 43 = N 43
    omega
