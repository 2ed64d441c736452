def fld {σ : Type} (st : Nat → σ → σ) : Nat → Nat → σ → σ
  | 0, _, s => s
  | c + 1, i, s => fld st c (i + 1) (st i s)
/-- a loop from i to n whose rounds are st -/
theorem lp_for {F R σ : Type} {bot : F} {G : F → F} (ap : F → Nat → σ → R) (n : Nat) (st : Nat → σ → σ) (e : σ → R) (hs : ∀ K i s, i < n → ap (G K) i s = ap K (i + 1) (st i s)) (he : ∀ K s, ap (G K) n s = e s) : ∀ (m i : Nat) (s : σ), i ≤ n → n < i + m → ap (lp bot G m) i s = e (fld st (n - i) i s) := by
  intro m
  induction m with
  | zero => intro i s h1 h2; omega
  | succ m ih =>
    intro i s h1 h2
    show ap (G (lp bot G m)) i s = _
    by_cases h : i = n
    · subst h
      rw [he, Nat.sub_self]
      rfl
    · rw [hs _ i s (by omega), ih (i + 1) (st i s) (by omega) (by omega), show n - i = (n - (i + 1)) + 1 by omega]
      rfl
def tot (N : Nat → Nat) (q : Nat) : Nat := N q + N (6 + q) + N (12 + q) + N (18 + q)
def wsum (N : Nat → Nat) (w : Nat) : Nat := N (6 * w) + N (6 * w + 1) + N (6 * w + 2) + N (6 * w + 3) + N (6 * w + 4) + N (6 * w + 5)
def allV (N : Nat → Nat) : Nat := wsum N 0 + wsum N 1 + wsum N 2 + wsum N 3
def seatsA (N : Nat → Nat) : Nat := N 24 + N 25 + N 26 + N 27
theorem z0 : (0 : Int32) = nI 0 := rfl
theorem tot9 {h : Hp} {N : Nat → Nat} (a : Po h 109 N) {q : Nat} (hq : q < 6) : f_X9_total 108 (nI q) h = some (nI (tot N q), h) := by
  rcases (show q = 0 ∨ q = 1 ∨ q = 2 ∨ q = 3 ∨ q = 4 ∨ q = 5 by omega) with rfl | rfl | rfl | rfl | rfl | rfl
  · show some (0 + h.1 109 0 + h.1 109 6 + h.1 109 12 + h.1 109 18, h) = _
    rw [a 0 (by decide), a 6 (by decide), a 12 (by decide), a 18 (by decide), z0, nI_add, nI_add, nI_add, nI_add, Nat.zero_add]
    rfl
  · show some (0 + h.1 109 1 + h.1 109 7 + h.1 109 13 + h.1 109 19, h) = _
    rw [a 1 (by decide), a 7 (by decide), a 13 (by decide), a 19 (by decide), z0, nI_add, nI_add, nI_add, nI_add, Nat.zero_add]
    rfl
  · show some (0 + h.1 109 2 + h.1 109 8 + h.1 109 14 + h.1 109 20, h) = _
    rw [a 2 (by decide), a 8 (by decide), a 14 (by decide), a 20 (by decide), z0, nI_add, nI_add, nI_add, nI_add, Nat.zero_add]
    rfl
  · show some (0 + h.1 109 3 + h.1 109 9 + h.1 109 15 + h.1 109 21, h) = _
    rw [a 3 (by decide), a 9 (by decide), a 15 (by decide), a 21 (by decide), z0, nI_add, nI_add, nI_add, nI_add, Nat.zero_add]
    rfl
  · show some (0 + h.1 109 4 + h.1 109 10 + h.1 109 16 + h.1 109 22, h) = _
    rw [a 4 (by decide), a 10 (by decide), a 16 (by decide), a 22 (by decide), z0, nI_add, nI_add, nI_add, nI_add, Nat.zero_add]
    rfl
  · show some (0 + h.1 109 5 + h.1 109 11 + h.1 109 17 + h.1 109 23, h) = _
    rw [a 5 (by decide), a 11 (by decide), a 17 (by decide), a 23 (by decide), z0, nI_add, nI_add, nI_add, nI_add, Nat.zero_add]
    rfl
theorem tot8 {h : Hp} {p : Nat} {N : Nat → Nat} (a : Pc h p N) {q : Nat} (hq : q < 6) : f_X3_totalOf p (nI q) h = some (nI (tot N q), h) := by
  rcases (show q = 0 ∨ q = 1 ∨ q = 2 ∨ q = 3 ∨ q = 4 ∨ q = 5 by omega) with rfl | rfl | rfl | rfl | rfl | rfl
  · show some (0 + h.1 (p + (lc 0).1) (lc 0).2 + h.1 (p + (lc 6).1) (lc 6).2 + h.1 (p + (lc 12).1) (lc 12).2 + h.1 (p + (lc 18).1) (lc 18).2, h) = _
    rw [a 0 (by decide), a 6 (by decide), a 12 (by decide), a 18 (by decide), z0, nI_add, nI_add, nI_add, nI_add, Nat.zero_add]
    rfl
  · show some (0 + h.1 (p + (lc 1).1) (lc 1).2 + h.1 (p + (lc 7).1) (lc 7).2 + h.1 (p + (lc 13).1) (lc 13).2 + h.1 (p + (lc 19).1) (lc 19).2, h) = _
    rw [a 1 (by decide), a 7 (by decide), a 13 (by decide), a 19 (by decide), z0, nI_add, nI_add, nI_add, nI_add, Nat.zero_add]
    rfl
  · show some (0 + h.1 (p + (lc 2).1) (lc 2).2 + h.1 (p + (lc 8).1) (lc 8).2 + h.1 (p + (lc 14).1) (lc 14).2 + h.1 (p + (lc 20).1) (lc 20).2, h) = _
    rw [a 2 (by decide), a 8 (by decide), a 14 (by decide), a 20 (by decide), z0, nI_add, nI_add, nI_add, nI_add, Nat.zero_add]
    rfl
  · show some (0 + h.1 (p + (lc 3).1) (lc 3).2 + h.1 (p + (lc 9).1) (lc 9).2 + h.1 (p + (lc 15).1) (lc 15).2 + h.1 (p + (lc 21).1) (lc 21).2, h) = _
    rw [a 3 (by decide), a 9 (by decide), a 15 (by decide), a 21 (by decide), z0, nI_add, nI_add, nI_add, nI_add, Nat.zero_add]
    rfl
  · show some (0 + h.1 (p + (lc 4).1) (lc 4).2 + h.1 (p + (lc 10).1) (lc 10).2 + h.1 (p + (lc 16).1) (lc 16).2 + h.1 (p + (lc 22).1) (lc 22).2, h) = _
    rw [a 4 (by decide), a 10 (by decide), a 16 (by decide), a 22 (by decide), z0, nI_add, nI_add, nI_add, nI_add, Nat.zero_add]
    rfl
  · show some (0 + h.1 (p + (lc 5).1) (lc 5).2 + h.1 (p + (lc 11).1) (lc 11).2 + h.1 (p + (lc 17).1) (lc 17).2 + h.1 (p + (lc 23).1) (lc 23).2, h) = _
    rw [a 5 (by decide), a 11 (by decide), a 17 (by decide), a 23 (by decide), z0, nI_add, nI_add, nI_add, nI_add, Nat.zero_add]
    rfl
theorem ward9 {h : Hp} {N : Nat → Nat} (a : Po h 109 N) {w : Nat} (hw : w < 4) : f_X9_ofWard 108 (nI w) h = some (nI (wsum N w), h) := by
  rcases (show w = 0 ∨ w = 1 ∨ w = 2 ∨ w = 3 by omega) with rfl | rfl | rfl | rfl
  · show some (0 + h.1 109 0 + h.1 109 1 + h.1 109 2 + h.1 109 3 + h.1 109 4 + h.1 109 5, h) = _
    rw [a 0 (by decide), a 1 (by decide), a 2 (by decide), a 3 (by decide), a 4 (by decide), a 5 (by decide), z0, nI_add, nI_add, nI_add, nI_add, nI_add, nI_add, Nat.zero_add]
    rfl
  · show some (0 + h.1 109 6 + h.1 109 7 + h.1 109 8 + h.1 109 9 + h.1 109 10 + h.1 109 11, h) = _
    rw [a 6 (by decide), a 7 (by decide), a 8 (by decide), a 9 (by decide), a 10 (by decide), a 11 (by decide), z0, nI_add, nI_add, nI_add, nI_add, nI_add, nI_add, Nat.zero_add]
    rfl
  · show some (0 + h.1 109 12 + h.1 109 13 + h.1 109 14 + h.1 109 15 + h.1 109 16 + h.1 109 17, h) = _
    rw [a 12 (by decide), a 13 (by decide), a 14 (by decide), a 15 (by decide), a 16 (by decide), a 17 (by decide), z0, nI_add, nI_add, nI_add, nI_add, nI_add, nI_add, Nat.zero_add]
    rfl
  · show some (0 + h.1 109 18 + h.1 109 19 + h.1 109 20 + h.1 109 21 + h.1 109 22 + h.1 109 23, h) = _
    rw [a 18 (by decide), a 19 (by decide), a 20 (by decide), a 21 (by decide), a 22 (by decide), a 23 (by decide), z0, nI_add, nI_add, nI_add, nI_add, nI_add, nI_add, Nat.zero_add]
    rfl
theorem ward8 {h : Hp} {p : Nat} {N : Nat → Nat} (a : Pc h p N) {w : Nat} (hw : w < 4) : f_X3_sumOfWard p (nI w) h = some (nI (wsum N w), h) := by
  rcases (show w = 0 ∨ w = 1 ∨ w = 2 ∨ w = 3 by omega) with rfl | rfl | rfl | rfl
  · show some (0 + h.1 (p + (lc 0).1) (lc 0).2 + h.1 (p + (lc 1).1) (lc 1).2 + h.1 (p + (lc 2).1) (lc 2).2 + h.1 (p + (lc 3).1) (lc 3).2 + h.1 (p + (lc 4).1) (lc 4).2 + h.1 (p + (lc 5).1) (lc 5).2, h) = _
    rw [a 0 (by decide), a 1 (by decide), a 2 (by decide), a 3 (by decide), a 4 (by decide), a 5 (by decide), z0, nI_add, nI_add, nI_add, nI_add, nI_add, nI_add, Nat.zero_add]
    rfl
  · show some (0 + h.1 (p + (lc 6).1) (lc 6).2 + h.1 (p + (lc 7).1) (lc 7).2 + h.1 (p + (lc 8).1) (lc 8).2 + h.1 (p + (lc 9).1) (lc 9).2 + h.1 (p + (lc 10).1) (lc 10).2 + h.1 (p + (lc 11).1) (lc 11).2, h) = _
    rw [a 6 (by decide), a 7 (by decide), a 8 (by decide), a 9 (by decide), a 10 (by decide), a 11 (by decide), z0, nI_add, nI_add, nI_add, nI_add, nI_add, nI_add, Nat.zero_add]
    rfl
  · show some (0 + h.1 (p + (lc 12).1) (lc 12).2 + h.1 (p + (lc 13).1) (lc 13).2 + h.1 (p + (lc 14).1) (lc 14).2 + h.1 (p + (lc 15).1) (lc 15).2 + h.1 (p + (lc 16).1) (lc 16).2 + h.1 (p + (lc 17).1) (lc 17).2, h) = _
    rw [a 12 (by decide), a 13 (by decide), a 14 (by decide), a 15 (by decide), a 16 (by decide), a 17 (by decide), z0, nI_add, nI_add, nI_add, nI_add, nI_add, nI_add, Nat.zero_add]
    rfl
  · show some (0 + h.1 (p + (lc 18).1) (lc 18).2 + h.1 (p + (lc 19).1) (lc 19).2 + h.1 (p + (lc 20).1) (lc 20).2 + h.1 (p + (lc 21).1) (lc 21).2 + h.1 (p + (lc 22).1) (lc 22).2 + h.1 (p + (lc 23).1) (lc 23).2, h) = _
    rw [a 18 (by decide), a 19 (by decide), a 20 (by decide), a 21 (by decide), a 22 (by decide), a 23 (by decide), z0, nI_add, nI_add, nI_add, nI_add, nI_add, nI_add, Nat.zero_add]
    rfl
theorem all9 {h : Hp} {N : Nat → Nat} (a : Po h 109 N) : f_X9_all 108 h = some (nI (allV N), h) := by
  have e := lp_for (F := Nat → Int32 → Int32 → Hp → Option (Int32 × Hp)) (bot := fun _ _ _ _ => none) (G := f_X9_all_4) (fun K i x => K 108 x (nI i) h) 4 (fun i x => x + nI (wsum N i)) (fun x => some (x, h)) (fun K i x hi => by
    show f_X9_all_4 K 108 x (nI i) h = K 108 _ (nI (i + 1)) h
    unfold f_X9_all_4
    rw [if_neg (show ¬ (4 : Int32) ≤ nI i from nI_ge hi (by decide)), ward9 a hi]
    simp only [Option.bind_some, lt, nI_1]) (fun K x => by
    show f_X9_all_4 K 108 x (nI 4) h = some (x, h)
    unfold f_X9_all_4
    rw [if_pos (by decide)]) 1000 0 (nI 0) (by omega) (by omega)
  have e2 : fld (fun i x => x + nI (wsum N i)) (4 - 0) 0 (nI 0) = nI (allV N) := by
    show nI 0 + nI (wsum N 0) + nI (wsum N 1) + nI (wsum N 2) + nI (wsum N 3) = _
    rw [nI_add, nI_add, nI_add, nI_add, Nat.zero_add]
    rfl
  rw [e2] at e
  exact e
theorem all8 {h : Hp} {p : Nat} {N : Nat → Nat} (a : Pc h p N) : f_X3_sumOfAll p h = some (nI (allV N), h) := by
  show some (0 + h.1 (p + (lc 0).1) (lc 0).2 + h.1 (p + (lc 1).1) (lc 1).2 + h.1 (p + (lc 2).1) (lc 2).2 + h.1 (p + (lc 3).1) (lc 3).2 + h.1 (p + (lc 4).1) (lc 4).2 + h.1 (p + (lc 5).1) (lc 5).2 + h.1 (p + (lc 6).1) (lc 6).2 + h.1 (p + (lc 7).1) (lc 7).2 + h.1 (p + (lc 8).1) (lc 8).2 + h.1 (p + (lc 9).1) (lc 9).2 + h.1 (p + (lc 10).1) (lc 10).2 + h.1 (p + (lc 11).1) (lc 11).2 + h.1 (p + (lc 12).1) (lc 12).2 + h.1 (p + (lc 13).1) (lc 13).2 + h.1 (p + (lc 14).1) (lc 14).2 + h.1 (p + (lc 15).1) (lc 15).2 + h.1 (p + (lc 16).1) (lc 16).2 + h.1 (p + (lc 17).1) (lc 17).2 + h.1 (p + (lc 18).1) (lc 18).2 + h.1 (p + (lc 19).1) (lc 19).2 + h.1 (p + (lc 20).1) (lc 20).2 + h.1 (p + (lc 21).1) (lc 21).2 + h.1 (p + (lc 22).1) (lc 22).2 + h.1 (p + (lc 23).1) (lc 23).2, h) = _
  rw [a 0 (by decide), a 1 (by decide), a 2 (by decide), a 3 (by decide), a 4 (by decide), a 5 (by decide), a 6 (by decide), a 7 (by decide), a 8 (by decide), a 9 (by decide), a 10 (by decide), a 11 (by decide), a 12 (by decide), a 13 (by decide), a 14 (by decide), a 15 (by decide), a 16 (by decide), a 17 (by decide), a 18 (by decide), a 19 (by decide), a 20 (by decide), a 21 (by decide), a 22 (by decide), a 23 (by decide)]
  simp only [z0, nI_add]
  congr 3
  unfold allV wsum
  simp only [Nat.mul_zero, Nat.zero_add, Nat.mul_one, Nat.reduceMul, Nat.reduceAdd]
  omega
theorem seats9 {h : Hp} {N : Nat → Nat} (a : Po h 109 N) : f_X9_allSeats 108 h = some (nI (seatsA N), h) := by
  show some (0 + h.1 109 24 + h.1 109 25 + h.1 109 26 + h.1 109 27, h) = _
  rw [a 24 (by decide), a 25 (by decide), a 26 (by decide), a 27 (by decide), z0, nI_add, nI_add, nI_add, nI_add, Nat.zero_add]
  rfl
theorem seats8 {h : Hp} {p : Nat} {N : Nat → Nat} (a : Pc h p N) : f_X3_sumOfSeats p h = some (nI (seatsA N), h) := by
  show some (0 + h.1 (p + (lc 24).1) (lc 24).2 + h.1 (p + (lc 25).1) (lc 25).2 + h.1 (p + (lc 26).1) (lc 26).2 + h.1 (p + (lc 27).1) (lc 27).2, h) = _
  rw [a 24 (by decide), a 25 (by decide), a 26 (by decide), a 27 (by decide), z0, nI_add, nI_add, nI_add, nI_add, Nat.zero_add]
  rfl
theorem at9 {h : Hp} {N : Nat → Nat} (a : Po h 109 N) {k : Nat} (hk : k < 44) : h.1 (108 + 1) (Int32.toNatClampNeg (nI k)) = nI (N k) := by
  rw [nI_clamp (by omega)]
  exact a k hk
theorem seatsOf9 {h : Hp} {N : Nat → Nat} (a : Po h 109 N) {w : Nat} (hw : w < 4) : f_X9_seatsOf 108 (nI w) h = some (nI (N (24 + w)), h) := by
  unfold f_X9_seatsOf
  rw [show (24 : Int32) = nI 24 from rfl, nI_add, if_pos (ix_nI (by omega) (by decide)), at9 a (by omega)]
theorem leastOf9 {h : Hp} {N : Nat → Nat} (a : Po h 109 N) {w : Nat} (hw : w < 6) : f_X9_leastOf 108 (nI w) h = some (nI (N (28 + w)), h) := by
  unfold f_X9_leastOf
  rw [show (28 : Int32) = nI 28 from rfl, nI_add, if_pos (ix_nI (by omega) (by decide)), at9 a (by omega)]
theorem listOf9 {h : Hp} {N : Nat → Nat} (a : Po h 109 N) {w : Nat} (hw : w < 6) : f_X9_listOf 108 (nI w) h = some (nI (N (34 + w)), h) := by
  unfold f_X9_listOf
  rw [show (34 : Int32) = nI 34 from rfl, nI_add, if_pos (ix_nI (by omega) (by decide)), at9 a (by omega)]
theorem wayNow9 {h : Hp} {N : Nat → Nat} (a : Po h 109 N) : f_X9_wayNow 108 h = some (nI (N 41), h) := by
  show some (h.1 109 41, h) = _
  rw [a 41 (by decide)]
theorem votesOf9 {h : Hp} {N : Nat → Nat} (a : Po h 109 N) {w p : Nat} (hw : w < 4) (hp : p < 6) : f_X9_votesOf 108 (nI w) (nI p) h = some (nI (N (6 * w + p)), h) := by
  unfold f_X9_votesOf
  rw [show (6 : Int32) = nI 6 from rfl, pk_mul, nI_add, if_pos (ix_nI (by omega) (by decide)), at9 a (by omega)]
theorem tot_le {N : Nat → Nat} (v : Vn N) {q : Nat} (hq : q < 6) : tot N q ≤ 400000 := by
  have h : ∀ k, k < 24 → N k ≤ 100000 := fun k hk => by
    have := v.1 k (by omega)
    unfold bd at this
    rw [if_pos hk] at this
    exact this
  have h1 := h q (by omega)
  have h2 := h (6 + q) (by omega)
  have h3 := h (12 + q) (by omega)
  have h4 := h (18 + q) (by omega)
  unfold tot
  omega
theorem allV_le {N : Nat → Nat} (v : Vn N) : allV N ≤ 2400000 := by
  have h : ∀ k, k < 24 → N k ≤ 100000 := fun k hk => by
    have := v.1 k (by omega)
    unfold bd at this
    rw [if_pos hk] at this
    exact this
  unfold allV wsum
  simp only [Nat.mul_zero, Nat.zero_add, Nat.mul_one, Nat.reduceMul, Nat.reduceAdd]
  have := h 0 (by omega)
  have := h 1 (by omega)
  have := h 2 (by omega)
  have := h 3 (by omega)
  have := h 4 (by omega)
  have := h 5 (by omega)
  have := h 6 (by omega)
  have := h 7 (by omega)
  have := h 8 (by omega)
  have := h 9 (by omega)
  have := h 10 (by omega)
  have := h 11 (by omega)
  have := h 12 (by omega)
  have := h 13 (by omega)
  have := h 14 (by omega)
  have := h 15 (by omega)
  have := h 16 (by omega)
  have := h 17 (by omega)
  have := h 18 (by omega)
  have := h 19 (by omega)
  have := h 20 (by omega)
  have := h 21 (by omega)
  have := h 22 (by omega)
  have := h 23 (by omega)
  omega
/-- is party q IN? -/
def isInN (N : Nat → Nat) (q : Nat) : Bool := decide (0 < tot N q) && decide (N 40 * allV N ≤ 1000 * tot N q)
theorem in_conds {N : Nat → Nat} (v : Vn N) {q : Nat} (hq : q < 6) : (lg_cmp (Int32.toInt64 (nI (tot N q))) 0 ≤ 0 ↔ tot N q = 0) ∧ (lg_cmp (1000 * Int32.toInt64 (nI (tot N q))) (Int32.toInt64 (nI (N 40)) * Int32.toInt64 (nI (allV N))) < 0 ↔ 1000 * tot N q < N 40 * allV N) := by
  have h1 := tot_le v hq
  have h2 := allV_le v
  have h3 : N 40 ≤ 500 := v.1 40 (by decide)
  have h4 : N 40 * allV N ≤ 500 * 2400000 := Nat.mul_le_mul h3 h2
  constructor
  · rw [← Int32.not_lt, lg_gt, nI_l (by omega), show (0 : Int64) = lN 0 from rfl, lN_lt (by omega) (by omega)]
    omega
  · rw [lg_lt, nI_l (by omega), nI_l (by omega), nI_l (by omega), show (1000 : Int64) = lN 1000 from rfl, lN_mul, lN_mul, pk_lLT (by omega) (by omega)]
theorem isIn9 {h : Hp} {N : Nat → Nat} (v : Vn N) (a : Po h 109 N) {q : Nat} (hq : q < 6) : f_X9_isIn 108 (nI q) h = some (if isInN N q = true then 1 else 0, h) := by
  have c := in_conds v hq
  unfold f_X9_isIn
  rw [tot9 a hq]
  simp only [Option.bind_some, lt]
  by_cases h0 : tot N q = 0
  · rw [if_pos (c.1.mpr h0)]
    have : isInN N q = false := by
      unfold isInN
      simp [h0]
    rw [this]
    rfl
  · rw [if_neg (fun z => h0 (c.1.mp z)), if_pos (by decide), all9 a]
    simp only [Option.bind_some]
    rw [show h.1 (108 + 1) (Int32.toNatClampNeg 40) = nI (N 40) from a 40 (by decide)]
    by_cases h1 : 1000 * tot N q < N 40 * allV N
    · rw [if_pos (c.2.mpr h1)]
      have : isInN N q = false := by
        unfold isInN
        simp only [Bool.and_eq_false_iff, decide_eq_false_iff_not]
        right
        omega
      rw [this]
      rfl
    · rw [if_neg (fun z => h1 (c.2.mp z))]
      have : isInN N q = true := by
        unfold isInN
        simp only [Bool.and_eq_true, decide_eq_true_eq]
        omega
      rw [this]
      rfl
/-- a bit a party -/
def bitS (P : Nat → Bool) (i : Nat) (x : Int32) : Int32 := if P i = true then x ||| (1 <<< (nI i &&& 31)) else x
def bits6 (P : Nat → Bool) : Int32 := fld (bitS P) 6 0 0
def bits4 (P : Nat → Bool) : Int32 := fld (bitS P) 4 0 0
theorem or0 (x : Int32) : x ||| 0 = x := Int32.or_zero
theorem inBits8_loop {h : Hp} {p : Nat} {N : Nat → Nat} (v : Vn N) (a : Pc h p N) {M : Int64} (hM : M = Int32.toInt64 (nI (N 40)) * Int32.toInt64 (nI (allV N))) : lp (F := Nat → Int64 → Int32 → Int32 → Hp → Option (Int32 × Hp)) (fun _ _ _ _ _ => none) f_X3_inBits_17 1000 p M 0 (nI 0) h = some (bits6 (isInN N), h) := by
  refine lp_for (F := Nat → Int64 → Int32 → Int32 → Hp → Option (Int32 × Hp)) (bot := fun _ _ _ _ _ => none) (G := f_X3_inBits_17) (fun K i x => K p M x (nI i) h) 6 (bitS (isInN N)) (fun x => some (x, h)) ?_ ?_ 1000 0 0 (by omega) (by omega)
  · intro K i x hi
    show f_X3_inBits_17 K p M x (nI i) h = K p M _ (nI (i + 1)) h
    have c := in_conds v hi
    rw [← hM] at c
    unfold f_X3_inBits_17 f_X3_inBits_58
    rw [if_neg (show ¬ (6 : Int32) ≤ nI i from nI_ge hi (by decide)), tot8 a hi]
    simp only [Option.bind_some, lt, nI_1]
    unfold bitS
    by_cases h0 : tot N i = 0
    · rw [if_pos (c.1.mpr h0), if_neg (by unfold isInN; simp [h0])]
    · rw [if_neg (fun z => h0 (c.1.mp z))]
      by_cases h1 : 1000 * tot N i < N 40 * allV N
      · rw [if_pos (c.2.mpr h1), if_neg]
        unfold isInN
        simp only [Bool.and_eq_true, decide_eq_true_eq]
        omega
      · rw [if_neg (fun z => h1 (c.2.mp z)), if_pos]
        unfold isInN
        simp only [Bool.and_eq_true, decide_eq_true_eq]
        omega
  · intro K x
    show f_X3_inBits_17 K p M x (nI 6) h = some (x, h)
    unfold f_X3_inBits_17
    rw [if_pos (show (6 : Int32) ≤ nI 6 by decide)]
theorem inBits8 {h : Hp} {p : Nat} {N : Nat → Nat} (v : Vn N) (a : Pc h p N) : f_X3_inBits p h = some (bits6 (isInN N), h) := by
  have e40 : h.1 p 4 = nI (N 40) := a 40 (by decide)
  unfold f_X3_inBits
  rw [all8 a, Option.bind_some, e40]
  exact inBits8_loop v a rfl
theorem in9 {h : Hp} {N : Nat → Nat} (v : Vn N) (a : Po h 109 N) : f_X9_in 108 h = some (bits6 (isInN N), h) := by
  unfold f_X9_in
  have e := lp_for (F := Nat → Int32 → Int32 → Hp → Option (Int32 × Hp)) (bot := fun _ _ _ _ => none) (G := f_X9_in_4) (fun K i x => K 108 x (nI i) h) 6 (bitS (isInN N)) (fun x => some (x, h)) ?_ ?_ 1000 0 0 (by omega) (by omega)
  · exact e
  · intro K i x hi
    show f_X9_in_4 K 108 x (nI i) h = K 108 _ (nI (i + 1)) h
    unfold f_X9_in_4 f_X9_in_26
    rw [if_neg (show ¬ (6 : Int32) ≤ nI i from nI_ge hi (by decide)), isIn9 v a hi]
    simp only [Option.bind_some, lt, nI_1]
    unfold bitS
    by_cases h0 : isInN N i = true
    · rw [if_pos h0, if_neg one_ne, if_pos h0]
    · rw [if_neg h0, if_pos rfl, if_neg h0, or0]
  · intro K x
    show f_X9_in_4 K 108 x (nI 6) h = some (x, h)
    unfold f_X9_in_4
    rw [if_pos (by decide)]
section SUMS
variable {PK : (Nat → Nat) → Hp → Prop}
theorem op_in : Op (Rel PK) (fun h => f_X8_in 0 h) (fun h => f_X9_in 108 h) := by
  intro h ⟨N, hR⟩
  refine same_op (r := bits6 (isInN N)) ⟨N, hR⟩ ?_ (in9 hR.1 hR.2.2.1)
  show f_X8_in 0 h = _
  unfold f_X8_in
  rw [show (0 + 1 : Nat) = 1 from rfl, inBits8 hR.1 hR.2.1]
  rfl
theorem op_votes (z1 z2 : Int32) : Op (Rel PK) (fun h => f_X8_votes 0 z1 z2 h) (fun h => f_X9_votes 108 z1 z2 h) := by
  intro h ⟨N, hR⟩
  have a := hR.2.1
  have b := hR.2.2.1
  have split : ∀ (x : Int32) (n : Nat), n < 1000 → (x = -1) ∨ (∃ j, j < n ∧ x = nI j) ∨ (x < -1) ∨ (nI n ≤ x) := fun x n hn => by
    by_cases h1 : x < 0
    · by_cases h2 : x = -1
      · exact Or.inl h2
      · refine Or.inr (Or.inr (Or.inl ?_))
        rw [Int32.lt_iff_toInt_lt] at h1 ⊢
        have h3 : x.toInt ≠ (-1 : Int32).toInt := fun z => h2 (Int32.toInt_inj.mp z)
        have e1 : (0 : Int32).toInt = 0 := by decide
        have e2 : (-1 : Int32).toInt = -1 := by decide
        omega
    · obtain ⟨j, hj, rfl⟩ := nI_of h1
      by_cases h2 : j < n
      · exact Or.inr (Or.inl ⟨j, h2, rfl⟩)
      · exact Or.inr (Or.inr (Or.inr (nI_le (by omega) hj)))
  have nneg : ∀ j, j < 1000 → ¬ (nI j < -1) ∧ ¬ (nI j = -1) := fun j hj => by
    have h1 : ¬ nI j < 0 := nI_pos (by omega)
    exact ⟨fun z => h1 (Int32.lt_trans z (by decide)), fun z => h1 (by rw [z]; decide)⟩
  have m1 : ∀ {x : Int32}, x < -1 → ¬ x = -1 ∧ x < 0 := fun {x} hx => ⟨fun z => by rw [z] at hx; exact absurd hx (by decide), Int32.lt_trans hx (by decide)⟩
  have big : ∀ {x : Int32} {n : Nat}, n < 1000 → nI n ≤ x → ¬ x < -1 ∧ ¬ x = -1 := fun {x n} hn hx => by
    have h1 : ¬ x < 0 := fun z => absurd (Int32.lt_of_le_of_lt hx z) (nI_pos (by omega))
    exact ⟨fun z => h1 (Int32.lt_trans z (by decide)), fun z => h1 (by rw [z]; decide)⟩
  -- ward
  rcases split z1 4 (by decide) with rfl | ⟨w, hw, rfl⟩ | o1 | o1
  · rcases split z2 6 (by decide) with rfl | ⟨p, hp, rfl⟩ | o2 | o2
    · refine same_op (r := nI (allV N)) ⟨N, hR⟩ ?_ ?_
      · unfold f_X8_votes
        rw [if_neg (by decide), if_neg (by decide), if_neg (by decide), if_pos (by decide), if_pos rfl, if_pos rfl, show (0 + 1 : Nat) = 1 from rfl, all8 a]
        rfl
      · unfold f_X9_votes f_X9_votes_12 f_X9_votes_26
        rw [if_pos rfl, if_pos rfl, if_pos rfl, if_pos rfl, all9 b]
        rfl
    · refine same_op (r := nI (tot N p)) ⟨N, hR⟩ ?_ ?_
      · unfold f_X8_votes
        rw [if_neg (by decide), if_neg (by decide), if_neg (nneg p (by omega)).1, if_pos (show nI p < 6 from nI_lt hp (by decide)), if_pos rfl, if_neg (nneg p (by omega)).2, show (0 + 1 : Nat) = 1 from rfl, tot8 a hp]
        rfl
      · unfold f_X9_votes f_X9_votes_12 f_X9_votes_26
        rw [if_pos rfl, if_neg (nneg p (by omega)).2, isPartyi _ (by omega)]
        simp only [Option.bind_some, one_ne, if_false, if_true, (nneg p (by omega)).2]
        rw [tot9 b hp]
        rfl
    · refine same_op (r := -1) ⟨N, hR⟩ ?_ ?_
      · unfold f_X8_votes
        rw [if_neg (by decide), if_neg (by decide), if_pos o2]
      · unfold f_X9_votes f_X9_votes_12
        rw [if_pos rfl, if_neg (m1 o2).1, isPartyo _ (Or.inl (m1 o2).2)]
        rfl
    · refine same_op (r := -1) ⟨N, hR⟩ ?_ ?_
      · unfold f_X8_votes
        rw [if_neg (by decide), if_neg (by decide), if_neg (big (by decide) o2).1, if_neg (show ¬ z2 < 6 from Int32.not_lt.mpr o2)]
      · unfold f_X9_votes f_X9_votes_12
        rw [if_pos rfl, if_neg (big (by decide) o2).2, isPartyo _ (Or.inr (Int32.lt_of_lt_of_le (by decide) o2))]
        rfl
  · have q1 := nneg w (by omega)
    have q2 : ¬ 4 ≤ nI w := nI_ge hw (by decide)
    rcases split z2 6 (by decide) with rfl | ⟨p, hp, rfl⟩ | o2 | o2
    · refine same_op (r := nI (wsum N w)) ⟨N, hR⟩ ?_ ?_
      · unfold f_X8_votes
        rw [if_neg q1.1, if_neg q2, if_neg (by decide), if_pos (by decide), if_neg q1.2, if_pos rfl, show (0 + 1 : Nat) = 1 from rfl, ward8 a hw]
        rfl
      · unfold f_X9_votes f_X9_votes_12 f_X9_votes_26
        rw [if_neg q1.2, isWardi _ (by omega)]
        simp only [Option.bind_some, one_ne, if_false, if_true, q1.2]
        rw [ward9 b hw]
        rfl
    · have q3 := nneg p (by omega)
      refine same_op (r := nI (N (6 * w + p))) ⟨N, hR⟩ ?_ ?_
      · unfold f_X8_votes
        rw [if_neg q1.1, if_neg q2, if_neg q3.1, if_pos (show nI p < 6 from nI_lt hp (by decide)), if_neg q1.2, if_neg q3.2, cell8]
        simp only [Option.bind_some, ix_nI (show w * 6 + p < 24 by omega) (by decide : 24 < 2 ^ 31), if_true, nI_clamp (show w * 6 + p < 2 ^ 31 by omega)]
        have e := a (w * 6 + p) (by omega)
        rw [show lc (w * 6 + p) = (1, w * 6 + p) from if_pos (by omega)] at e
        rw [show h.1 (0 + 1 + 1) (w * 6 + p) = nI (N (w * 6 + p)) from e, Nat.mul_comm]
      · unfold f_X9_votes f_X9_votes_12 f_X9_votes_26
        rw [if_neg q1.2, isWardi _ (by omega)]
        simp only [Option.bind_some, one_ne, if_false, q3.2, isPartyi _ (show p ≤ 5 by omega), q1.2, votesOf9 b hw hp]
    · refine same_op (r := -1) ⟨N, hR⟩ ?_ ?_
      · unfold f_X8_votes
        rw [if_neg q1.1, if_neg q2, if_pos o2]
      · unfold f_X9_votes f_X9_votes_12
        rw [if_neg q1.2, isWardi _ (by omega)]
        simp only [Option.bind_some, one_ne, if_false, (m1 o2).1, isPartyo _ (Or.inl (m1 o2).2), if_true]
    · refine same_op (r := -1) ⟨N, hR⟩ ?_ ?_
      · unfold f_X8_votes
        rw [if_neg q1.1, if_neg q2, if_neg (big (by decide) o2).1, if_neg (show ¬ z2 < 6 from Int32.not_lt.mpr o2)]
      · unfold f_X9_votes f_X9_votes_12
        rw [if_neg q1.2, isWardi _ (by omega)]
        simp only [Option.bind_some, one_ne, if_false, (big (by decide) o2).2, isPartyo _ (Or.inr (Int32.lt_of_lt_of_le (show nI 5 < nI 6 by decide) o2)), if_true]
  · refine same_op (r := -1) ⟨N, hR⟩ ?_ ?_
    · unfold f_X8_votes
      rw [if_pos o1]
    · unfold f_X9_votes
      rw [if_neg (m1 o1).1, isWardo _ (Or.inl (m1 o1).2)]
      rfl
  · refine same_op (r := -1) ⟨N, hR⟩ ?_ ?_
    · unfold f_X8_votes
      rw [if_neg (big (by decide) o1).1, if_pos (show (4 : Int32) ≤ z1 from o1)]
    · unfold f_X9_votes
      rw [if_neg (big (by decide) o1).2, isWardo _ (Or.inr (Int32.lt_of_lt_of_le (show nI 3 < nI 4 by decide) o1))]
      rfl
end SUMS
