def B1 (b : Bool) (k : Nat) (x : Int32) : Int32 := if b = true then x ||| (1 <<< (nI k &&& 31)) else x
def B6 (b0 b1 b2 b3 b4 b5 : Bool) : Int32 := B1 b5 5 (B1 b4 4 (B1 b3 3 (B1 b2 2 (B1 b1 1 (B1 b0 0 0)))))
def B4 (b0 b1 b2 b3 : Bool) : Int32 := B1 b3 3 (B1 b2 2 (B1 b1 1 (B1 b0 0 0)))
theorem bits6_eq (Q : Nat → Bool) : bits6 Q = B6 (Q 0) (Q 1) (Q 2) (Q 3) (Q 4) (Q 5) := rfl
theorem bits4_eq (Q : Nat → Bool) : bits4 Q = B4 (Q 0) (Q 1) (Q 2) (Q 3) := rfl
theorem B6_holds : ∀ b0 b1 b2 b3 b4 b5 : Bool, (((B6 b0 b1 b2 b3 b4 b5 >>> (nI 0 &&& 31)) &&& 1 = 0) ↔ b0 = false) ∧ (((B6 b0 b1 b2 b3 b4 b5 >>> (nI 1 &&& 31)) &&& 1 = 0) ↔ b1 = false) ∧ (((B6 b0 b1 b2 b3 b4 b5 >>> (nI 2 &&& 31)) &&& 1 = 0) ↔ b2 = false) ∧ (((B6 b0 b1 b2 b3 b4 b5 >>> (nI 3 &&& 31)) &&& 1 = 0) ↔ b3 = false) ∧ (((B6 b0 b1 b2 b3 b4 b5 >>> (nI 4 &&& 31)) &&& 1 = 0) ↔ b4 = false) ∧ (((B6 b0 b1 b2 b3 b4 b5 >>> (nI 5 &&& 31)) &&& 1 = 0) ↔ b5 = false) := by decide +kernel
theorem B4_holds : ∀ b0 b1 b2 b3 : Bool, (((B4 b0 b1 b2 b3 >>> (nI 0 &&& 31)) &&& 1 = 0) ↔ b0 = false) ∧ (((B4 b0 b1 b2 b3 >>> (nI 1 &&& 31)) &&& 1 = 0) ↔ b1 = false) ∧ (((B4 b0 b1 b2 b3 >>> (nI 2 &&& 31)) &&& 1 = 0) ↔ b2 = false) ∧ (((B4 b0 b1 b2 b3 >>> (nI 3 &&& 31)) &&& 1 = 0) ↔ b3 = false) := by decide +kernel
theorem holds_of {x : Int32} {i : Nat} {b : Bool} (h : Hp) (e : ((x >>> (nI i &&& 31)) &&& 1 = 0) ↔ b = false) : f_X8_holds x (nI i) h = some (if b = true then 1 else 0, h) := by
  unfold f_X8_holds
  cases b with
  | false =>
    rw [if_pos (e.mpr rfl)]
    rfl
  | true =>
    rw [if_neg (fun z => by cases e.mp z)]
    rfl
theorem holds6 (Q : Nat → Bool) {i : Nat} (hi : i < 6) (h : Hp) : f_X8_holds (bits6 Q) (nI i) h = some (if Q i = true then 1 else 0, h) := by
  have e := B6_holds (Q 0) (Q 1) (Q 2) (Q 3) (Q 4) (Q 5)
  rw [← bits6_eq] at e
  rcases (show i = 0 ∨ i = 1 ∨ i = 2 ∨ i = 3 ∨ i = 4 ∨ i = 5 by omega) with rfl | rfl | rfl | rfl | rfl | rfl
  · exact holds_of h e.1
  · exact holds_of h e.2.1
  · exact holds_of h e.2.2.1
  · exact holds_of h e.2.2.2.1
  · exact holds_of h e.2.2.2.2.1
  · exact holds_of h e.2.2.2.2.2
theorem holds4 (Q : Nat → Bool) {i : Nat} (hi : i < 4) (h : Hp) : f_X8_holds (bits4 Q) (nI i) h = some (if Q i = true then 1 else 0, h) := by
  have e := B4_holds (Q 0) (Q 1) (Q 2) (Q 3)
  rw [← bits4_eq] at e
  rcases (show i = 0 ∨ i = 1 ∨ i = 2 ∨ i = 3 by omega) with rfl | rfl | rfl | rfl
  · exact holds_of h e.1
  · exact holds_of h e.2.1
  · exact holds_of h e.2.2.1
  · exact holds_of h e.2.2.2
def lstS (N : Nat → Nat) (i : Nat) (x : Int32) : Int32 := if isInN N i = true then x ||| (1 <<< (nI (N (34 + i)) &&& 31)) else x
def listB (N : Nat → Nat) : Int32 := fld (lstS N) 6 0 0
theorem listOf8 {h : Hp} {p : Nat} {N : Nat → Nat} (a : Pc h p N) {i : Nat} (hi : i < 6) : h.1 (p + 4) i = nI (N (34 + i)) := by
  have e := a (34 + i) (by omega)
  have q : lc (34 + i) = (4, i) := by
    unfold lc
    rw [if_neg (by omega), if_neg (by omega), if_neg (by omega), if_pos (by omega)]
    congr 1
    omega
  rw [q] at e
  exact e
theorem leasts8 {h : Hp} {p : Nat} {N : Nat → Nat} (a : Pc h p N) {i : Nat} (hi : i < 6) : h.1 (p + 3) i = nI (N (28 + i)) := by
  have e := a (28 + i) (by omega)
  have q : lc (28 + i) = (3, i) := by
    unfold lc
    rw [if_neg (by omega), if_neg (by omega), if_pos (by omega)]
    congr 1
    omega
  rw [q] at e
  exact e
theorem wseats8 {h : Hp} {p : Nat} {N : Nat → Nat} (a : Pc h p N) {i : Nat} (hi : i < 4) : h.1 (p + 2) i = nI (N (24 + i)) := by
  have e := a (24 + i) (by omega)
  have q : lc (24 + i) = (2, i) := by
    unfold lc
    rw [if_neg (by omega), if_pos (by omega)]
    congr 1
    omega
  rw [q] at e
  exact e
theorem cast8 {h : Hp} {p : Nat} {N : Nat → Nat} (a : Pc h p N) {i : Nat} (hi : i < 24) : h.1 (p + 1) i = nI (N i) := by
  have e := a i (by omega)
  rw [show lc i = (1, i) from if_pos hi] at e
  exact e
theorem listBits8 {h : Hp} {p : Nat} {N : Nat → Nat} (v : Vn N) (a : Pc h p N) : f_X3_listBits p h = some (listB N, h) := by
  unfold f_X3_listBits
  rw [inBits8 v a, Option.bind_some]
  have e := lp_for (F := Nat → Int32 → Int32 → Int32 → Hp → Option (Int32 × Hp)) (bot := fun _ _ _ _ _ => none) (G := f_X3_listBits_9) (fun K i x => K p (bits6 (isInN N)) x (nI i) h) 6 (lstS N) (fun x => some (x, h)) ?_ ?_ 1000 0 0 (by omega) (by omega)
  · exact e
  · intro K i x hi
    show f_X3_listBits_9 K p (bits6 (isInN N)) x (nI i) h = K p _ _ (nI (i + 1)) h
    unfold f_X3_listBits_9 f_X3_listBits_34
    rw [if_neg (show ¬ (6 : Int32) ≤ nI i from nI_ge hi (by decide)), holds6 _ hi]
    simp only [Option.bind_some, lt, nI_1]
    unfold lstS
    by_cases h0 : isInN N i = true
    · rw [if_pos h0, if_neg one_ne, if_pos (ix_nI hi (by decide)), if_pos h0, nI_clamp (by omega), listOf8 a hi]
    · rw [if_neg h0, if_pos rfl, if_neg h0]
  · intro K x
    show f_X3_listBits_9 K p _ x (nI 6) h = some (x, h)
    unfold f_X3_listBits_9
    rw [if_pos (show (6 : Int32) ≤ nI 6 by decide)]
theorem listsIn9 {h : Hp} {N : Nat → Nat} (v : Vn N) (a : Po h 109 N) : f_X9_listsIn 108 h = some (listB N, h) := by
  unfold f_X9_listsIn
  have e := lp_for (F := Nat → Int32 → Int32 → Hp → Option (Int32 × Hp)) (bot := fun _ _ _ _ => none) (G := f_X9_listsIn_4) (fun K i x => K 108 x (nI i) h) 6 (lstS N) (fun x => some (x, h)) ?_ ?_ 1000 0 0 (by omega) (by omega)
  · exact e
  · intro K i x hi
    show f_X9_listsIn_4 K 108 x (nI i) h = K 108 _ (nI (i + 1)) h
    unfold f_X9_listsIn_4 f_X9_listsIn_30
    rw [if_neg (show ¬ (6 : Int32) ≤ nI i from nI_ge hi (by decide)), isIn9 v a hi]
    simp only [Option.bind_some, lt, nI_1]
    unfold lstS
    by_cases h0 : isInN N i = true
    · rw [if_pos h0, if_neg one_ne, if_pos h0, listOf9 a hi]
      rfl
    · rw [if_neg h0, if_pos rfl, if_neg h0, or0]
  · intro K x
    show f_X9_listsIn_4 K 108 x (nI 6) h = some (x, h)
    unfold f_X9_listsIn_4
    rw [if_pos (show (6 : Int32) ≤ nI 6 by decide)]
def hasSeat (N : Nat → Nat) (w : Nat) : Bool := decide (0 < N (24 + w))
theorem ws_le {N : Nat → Nat} (v : Vn N) {w : Nat} (hw : w < 4) : N (24 + w) ≤ 30 := by
  have := v.1 (24 + w) (by omega)
  unfold bd at this
  rw [if_neg (by omega), if_pos (by omega)] at this
  exact this
theorem wardBits8 {h : Hp} {p : Nat} {N : Nat → Nat} (v : Vn N) (a : Pc h p N) : f_X3_wardBits p h = some (bits4 (hasSeat N), h) := by
  unfold f_X3_wardBits
  have e := lp_for (F := Nat → Int32 → Int32 → Hp → Option (Int32 × Hp)) (bot := fun _ _ _ _ => none) (G := f_X3_wardBits_4) (fun K i x => K p x (nI i) h) 4 (bitS (hasSeat N)) (fun x => some (x, h)) ?_ ?_ 1000 0 0 (by omega) (by omega)
  · exact e
  · intro K i x hi
    show f_X3_wardBits_4 K p x (nI i) h = K p _ (nI (i + 1)) h
    have hl := ws_le v hi
    unfold f_X3_wardBits_4 f_X3_wardBits_24
    rw [if_neg (show ¬ (4 : Int32) ≤ nI i from nI_ge hi (by decide)), if_pos (ix_nI hi (by decide)), nI_clamp (by omega), wseats8 a hi]
    simp only [lt, nI_1]
    unfold bitS hasSeat
    by_cases h0 : N (24 + i) = 0
    · rw [h0, if_pos (show nI 0 ≤ 0 by decide), if_neg (by simp)]
    · rw [if_neg (nI_nle (by omega) (by omega)), if_pos (by simp; omega)]
  · intro K x
    show f_X3_wardBits_4 K p x (nI 4) h = some (x, h)
    unfold f_X3_wardBits_4
    rw [if_pos (show (4 : Int32) ≤ nI 4 by decide)]
theorem wards9 {h : Hp} {N : Nat → Nat} (v : Vn N) (a : Po h 109 N) : f_X9_wardsWithSeats 108 h = some (bits4 (hasSeat N), h) := by
  unfold f_X9_wardsWithSeats
  have e := lp_for (F := Nat → Int32 → Int32 → Hp → Option (Int32 × Hp)) (bot := fun _ _ _ _ => none) (G := f_X9_wardsWithSeats_4) (fun K i x => K 108 x (nI i) h) 4 (bitS (hasSeat N)) (fun x => some (x, h)) ?_ ?_ 1000 0 0 (by omega) (by omega)
  · exact e
  · intro K i x hi
    show f_X9_wardsWithSeats_4 K 108 x (nI i) h = K 108 _ (nI (i + 1)) h
    have hl := ws_le v hi
    unfold f_X9_wardsWithSeats_4 f_X9_wardsWithSeats_25
    rw [if_neg (show ¬ (4 : Int32) ≤ nI i from nI_ge hi (by decide)), seatsOf9 a hi]
    simp only [Option.bind_some, lt, nI_1]
    unfold bitS hasSeat
    by_cases h0 : N (24 + i) = 0
    · rw [h0, if_pos (show nI 0 ≤ 0 by decide), if_neg (by simp), or0]
    · rw [if_neg (nI_nle (by omega) (by omega)), if_pos (by simp; omega)]
  · intro K x
    show f_X9_wardsWithSeats_4 K 108 x (nI 4) h = some (x, h)
    unfold f_X9_wardsWithSeats_4
    rw [if_pos (show (4 : Int32) ≤ nI 4 by decide)]
theorem outr {x : Int32} {lo hi : Nat} (h0 : lo ≤ hi) (h1 : hi + 1 < 2 ^ 31) (h : ∀ j, lo ≤ j → j ≤ hi → ¬ x = nI j) : (x < nI lo ∨ nI hi < x) := by
  by_cases h2 : x < 0
  · exact Or.inl (Int32.lt_of_lt_of_le h2 (nI_pos' (n := lo) (by omega)))
  · obtain ⟨j, hj, rfl⟩ := nI_of h2
    by_cases h3 : j < lo
    · exact Or.inl (nI_lt h3 (by omega))
    · exact Or.inr (nI_lt (by
        have := h j (by omega)
        rcases Nat.lt_or_ge hi j with q | q
        · exact q
        · exact absurd rfl (this q)) hj)
theorem outp {x : Int32} {lo hi : Nat} (h1 : hi + 1 < 2 ^ 31) (o : x < nI lo ∨ nI hi < x) : x < nI lo ∨ nI (hi + 1) ≤ x := by
  rcases o with q | q
  · exact Or.inl q
  · right
    by_cases z : x < 0
    · exact absurd (Int32.lt_trans q z) (nI_pos (by omega))
    · obtain ⟨j, hj, rfl⟩ := nI_of z
      rw [nI_ltI (by omega) hj] at q
      exact nI_le (by omega) hj
section TOLD
variable {PK : (Nat → Nat) → Hp → Prop}
theorem told8_0 {h : Hp} {N : Nat → Nat} {t u : Nat} (v : Vn N) (a : Pc h 1 N) (t2 : h.1 96 1 = nI t) (u2 : h.1 98 1 = nI u) : f_X8_told 0 0 h = some (nI (allV N), h) := by
  unfold f_X8_told
  rw [if_pos (by decide)]
  unfold f_X8_told_25
  rw [if_pos (by decide)]
  unfold f_X8_told_50
  rw [if_pos (by decide)]
  unfold f_X8_told_75
  rw [if_pos rfl]
  show (f_X3_sumOfAll 1 h).bind _ = _
  rw [all8 a]
  rfl
theorem told9_0 {h : Hp} {N : Nat → Nat} {t u : Nat} (v : Vn N) (b : Po h 109 N) (t3 : h.1 108 6 = nI t) (u3 : h.1 108 28 = nI u) : f_X9_told 108 0 h = some (nI (allV N), h) := by
  unfold f_X9_told
  simp only [w9o_10_13 h (show (0 : Int32) < nI 10 ∨ nI 13 < (0 : Int32) from Or.inl (by decide)), w9o_20_25 h (show (0 : Int32) < nI 20 ∨ nI 25 < (0 : Int32) from Or.inl (by decide)), w9o_30_35 h (show (0 : Int32) < nI 30 ∨ nI 35 < (0 : Int32) from Or.inl (by decide)), Option.bind_some, if_true]
  rw [all9 b]
  rfl
theorem told8_1 {h : Hp} {N : Nat → Nat} {t u : Nat} (v : Vn N) (a : Pc h 1 N) (t2 : h.1 96 1 = nI t) (u2 : h.1 98 1 = nI u) : f_X8_told 0 1 h = some (nI (seatsA N), h) := by
  unfold f_X8_told
  rw [if_pos (by decide)]
  unfold f_X8_told_25
  rw [if_pos (by decide)]
  unfold f_X8_told_50
  rw [if_pos (by decide)]
  unfold f_X8_told_75
  rw [if_neg (by decide), if_pos rfl]
  show (f_X3_sumOfSeats 1 h).bind _ = _
  rw [seats8 a]
  rfl
theorem told9_1 {h : Hp} {N : Nat → Nat} {t u : Nat} (v : Vn N) (b : Po h 109 N) (t3 : h.1 108 6 = nI t) (u3 : h.1 108 28 = nI u) : f_X9_told 108 1 h = some (nI (seatsA N), h) := by
  unfold f_X9_told
  simp only [w9o_10_13 h (show (1 : Int32) < nI 10 ∨ nI 13 < (1 : Int32) from Or.inl (by decide)), w9o_20_25 h (show (1 : Int32) < nI 20 ∨ nI 25 < (1 : Int32) from Or.inl (by decide)), w9o_30_35 h (show (1 : Int32) < nI 30 ∨ nI 35 < (1 : Int32) from Or.inl (by decide)), Option.bind_some, if_true]
  rw [if_neg (by decide)]
  rw [seats9 b]
  rfl
theorem told8_2 {h : Hp} {N : Nat → Nat} {t u : Nat} (v : Vn N) (a : Pc h 1 N) (t2 : h.1 96 1 = nI t) (u2 : h.1 98 1 = nI u) : f_X8_told 0 2 h = some (nI (N 41), h) := by
  unfold f_X8_told
  rw [if_pos (by decide)]
  unfold f_X8_told_25
  rw [if_pos (by decide)]
  unfold f_X8_told_50
  rw [if_pos (by decide)]
  unfold f_X8_told_75
  rw [if_neg (by decide), if_neg (by decide), if_pos rfl]
  rw [show h.1 (0 + 1) 5 = nI (N 41) from a 41 (by decide)]
theorem told9_2 {h : Hp} {N : Nat → Nat} {t u : Nat} (v : Vn N) (b : Po h 109 N) (t3 : h.1 108 6 = nI t) (u3 : h.1 108 28 = nI u) : f_X9_told 108 2 h = some (nI (N 41), h) := by
  unfold f_X9_told
  simp only [w9o_10_13 h (show (2 : Int32) < nI 10 ∨ nI 13 < (2 : Int32) from Or.inl (by decide)), w9o_20_25 h (show (2 : Int32) < nI 20 ∨ nI 25 < (2 : Int32) from Or.inl (by decide)), w9o_30_35 h (show (2 : Int32) < nI 30 ∨ nI 35 < (2 : Int32) from Or.inl (by decide)), Option.bind_some, if_true]
  rw [if_neg (by decide), if_neg (by decide)]
  rw [wayNow9 b]
  rfl
theorem told8_3 {h : Hp} {N : Nat → Nat} {t u : Nat} (v : Vn N) (a : Pc h 1 N) (t2 : h.1 96 1 = nI t) (u2 : h.1 98 1 = nI u) : f_X8_told 0 3 h = some (nI (N 40), h) := by
  unfold f_X8_told
  rw [if_pos (by decide)]
  unfold f_X8_told_25
  rw [if_pos (by decide)]
  unfold f_X8_told_50
  rw [if_pos (by decide)]
  unfold f_X8_told_75
  rw [if_neg (by decide), if_neg (by decide), if_neg (by decide), if_pos rfl]
  rw [show h.1 (0 + 1) 4 = nI (N 40) from a 40 (by decide)]
theorem told9_3 {h : Hp} {N : Nat → Nat} {t u : Nat} (v : Vn N) (b : Po h 109 N) (t3 : h.1 108 6 = nI t) (u3 : h.1 108 28 = nI u) : f_X9_told 108 3 h = some (nI (N 40), h) := by
  unfold f_X9_told
  simp only [w9o_10_13 h (show (3 : Int32) < nI 10 ∨ nI 13 < (3 : Int32) from Or.inl (by decide)), w9o_20_25 h (show (3 : Int32) < nI 20 ∨ nI 25 < (3 : Int32) from Or.inl (by decide)), w9o_30_35 h (show (3 : Int32) < nI 30 ∨ nI 35 < (3 : Int32) from Or.inl (by decide)), Option.bind_some, if_true]
  rw [if_neg (by decide), if_neg (by decide), if_neg (by decide)]
  rw [if_pos (by decide), show h.1 (108 + 1) (Int32.toNatClampNeg 40) = nI (N 40) from b 40 (by decide)]
theorem told8_4 {h : Hp} {N : Nat → Nat} {t u : Nat} (v : Vn N) (a : Pc h 1 N) (t2 : h.1 96 1 = nI t) (u2 : h.1 98 1 = nI u) : f_X8_told 0 4 h = some (nI (N 42), h) := by
  unfold f_X8_told
  rw [if_pos (by decide)]
  unfold f_X8_told_25
  rw [if_pos (by decide)]
  unfold f_X8_told_50
  rw [if_pos (by decide)]
  unfold f_X8_told_75
  rw [if_neg (by decide), if_neg (by decide), if_neg (by decide), if_neg (by decide), if_pos rfl]
  rw [show h.1 (0 + 1) 6 = nI (N 42) from a 42 (by decide)]
theorem told9_4 {h : Hp} {N : Nat → Nat} {t u : Nat} (v : Vn N) (b : Po h 109 N) (t3 : h.1 108 6 = nI t) (u3 : h.1 108 28 = nI u) : f_X9_told 108 4 h = some (nI (N 42), h) := by
  unfold f_X9_told
  simp only [w9o_10_13 h (show (4 : Int32) < nI 10 ∨ nI 13 < (4 : Int32) from Or.inl (by decide)), w9o_20_25 h (show (4 : Int32) < nI 20 ∨ nI 25 < (4 : Int32) from Or.inl (by decide)), w9o_30_35 h (show (4 : Int32) < nI 30 ∨ nI 35 < (4 : Int32) from Or.inl (by decide)), Option.bind_some, if_true]
  rw [if_neg (by decide), if_neg (by decide), if_neg (by decide), if_neg (by decide)]
  rw [if_pos (by decide), show h.1 (108 + 1) (Int32.toNatClampNeg 42) = nI (N 42) from b 42 (by decide)]
theorem told8_5 {h : Hp} {N : Nat → Nat} {t u : Nat} (v : Vn N) (a : Pc h 1 N) (t2 : h.1 96 1 = nI t) (u2 : h.1 98 1 = nI u) : f_X8_told 0 5 h = some (nI (N 43), h) := by
  unfold f_X8_told
  rw [if_pos (by decide)]
  unfold f_X8_told_25
  rw [if_pos (by decide)]
  unfold f_X8_told_50
  rw [if_pos (by decide)]
  unfold f_X8_told_75
  rw [if_neg (by decide), if_neg (by decide), if_neg (by decide), if_neg (by decide), if_neg (by decide), if_pos rfl]
  rw [show h.1 (0 + 1) 7 = nI (N 43) from a 43 (by decide)]
theorem told9_5 {h : Hp} {N : Nat → Nat} {t u : Nat} (v : Vn N) (b : Po h 109 N) (t3 : h.1 108 6 = nI t) (u3 : h.1 108 28 = nI u) : f_X9_told 108 5 h = some (nI (N 43), h) := by
  unfold f_X9_told
  simp only [w9o_10_13 h (show (5 : Int32) < nI 10 ∨ nI 13 < (5 : Int32) from Or.inl (by decide)), w9o_20_25 h (show (5 : Int32) < nI 20 ∨ nI 25 < (5 : Int32) from Or.inl (by decide)), w9o_30_35 h (show (5 : Int32) < nI 30 ∨ nI 35 < (5 : Int32) from Or.inl (by decide)), Option.bind_some, if_true]
  rw [if_neg (by decide), if_neg (by decide), if_neg (by decide), if_neg (by decide), if_neg (by decide)]
  rw [if_pos (by decide), show h.1 (108 + 1) (Int32.toNatClampNeg 43) = nI (N 43) from b 43 (by decide)]
theorem told8_6 {h : Hp} {N : Nat → Nat} {t u : Nat} (v : Vn N) (a : Pc h 1 N) (t2 : h.1 96 1 = nI t) (u2 : h.1 98 1 = nI u) : f_X8_told 0 6 h = some (nI t, h) := by
  unfold f_X8_told
  rw [if_pos (by decide)]
  unfold f_X8_told_25
  rw [if_pos (by decide)]
  unfold f_X8_told_50
  rw [if_pos (by decide)]
  unfold f_X8_told_75
  rw [if_neg (by decide), if_neg (by decide), if_neg (by decide), if_neg (by decide), if_neg (by decide), if_neg (by decide), if_pos rfl]
  rw [show h.1 (0 + 96) 1 = nI t from t2]
theorem told9_6 {h : Hp} {N : Nat → Nat} {t u : Nat} (v : Vn N) (b : Po h 109 N) (t3 : h.1 108 6 = nI t) (u3 : h.1 108 28 = nI u) : f_X9_told 108 6 h = some (nI t, h) := by
  unfold f_X9_told
  simp only [w9o_10_13 h (show (6 : Int32) < nI 10 ∨ nI 13 < (6 : Int32) from Or.inl (by decide)), w9o_20_25 h (show (6 : Int32) < nI 20 ∨ nI 25 < (6 : Int32) from Or.inl (by decide)), w9o_30_35 h (show (6 : Int32) < nI 30 ∨ nI 35 < (6 : Int32) from Or.inl (by decide)), Option.bind_some, if_true]
  rw [if_neg (by decide), if_neg (by decide), if_neg (by decide), if_neg (by decide), if_neg (by decide), if_neg (by decide)]
  rw [t3]
theorem told8_7 {h : Hp} {N : Nat → Nat} {t u : Nat} (v : Vn N) (a : Pc h 1 N) (t2 : h.1 96 1 = nI t) (u2 : h.1 98 1 = nI u) : f_X8_told 0 7 h = some (nI u, h) := by
  unfold f_X8_told
  rw [if_pos (by decide)]
  unfold f_X8_told_25
  rw [if_pos (by decide)]
  unfold f_X8_told_50
  rw [if_pos (by decide)]
  unfold f_X8_told_75
  rw [if_neg (by decide), if_neg (by decide), if_neg (by decide), if_neg (by decide), if_neg (by decide), if_neg (by decide), if_neg (by decide), if_pos rfl]
  rw [show h.1 (0 + 98) 1 = nI u from u2]
theorem told9_7 {h : Hp} {N : Nat → Nat} {t u : Nat} (v : Vn N) (b : Po h 109 N) (t3 : h.1 108 6 = nI t) (u3 : h.1 108 28 = nI u) : f_X9_told 108 7 h = some (nI u, h) := by
  unfold f_X9_told
  simp only [w9o_10_13 h (show (7 : Int32) < nI 10 ∨ nI 13 < (7 : Int32) from Or.inl (by decide)), w9o_20_25 h (show (7 : Int32) < nI 20 ∨ nI 25 < (7 : Int32) from Or.inl (by decide)), w9o_30_35 h (show (7 : Int32) < nI 30 ∨ nI 35 < (7 : Int32) from Or.inl (by decide)), Option.bind_some, if_true]
  rw [if_neg (by decide), if_neg (by decide), if_neg (by decide), if_neg (by decide), if_neg (by decide), if_neg (by decide), if_neg (by decide)]
  rw [u3]
theorem told8_8 {h : Hp} {N : Nat → Nat} {t u : Nat} (v : Vn N) (a : Pc h 1 N) (t2 : h.1 96 1 = nI t) (u2 : h.1 98 1 = nI u) : f_X8_told 0 8 h = some (listB N, h) := by
  unfold f_X8_told
  rw [if_pos (by decide)]
  unfold f_X8_told_25
  rw [if_pos (by decide)]
  unfold f_X8_told_50
  rw [if_pos (by decide)]
  unfold f_X8_told_75
  rw [if_neg (by decide), if_neg (by decide), if_neg (by decide), if_neg (by decide), if_neg (by decide), if_neg (by decide), if_neg (by decide), if_neg (by decide), if_pos rfl]
  rw [show (0 + 1 : Nat) = 1 from rfl, listBits8 v a]
  rfl
theorem told9_8 {h : Hp} {N : Nat → Nat} {t u : Nat} (v : Vn N) (b : Po h 109 N) (t3 : h.1 108 6 = nI t) (u3 : h.1 108 28 = nI u) : f_X9_told 108 8 h = some (listB N, h) := by
  unfold f_X9_told
  simp only [w9o_10_13 h (show (8 : Int32) < nI 10 ∨ nI 13 < (8 : Int32) from Or.inl (by decide)), w9o_20_25 h (show (8 : Int32) < nI 20 ∨ nI 25 < (8 : Int32) from Or.inl (by decide)), w9o_30_35 h (show (8 : Int32) < nI 30 ∨ nI 35 < (8 : Int32) from Or.inl (by decide)), Option.bind_some, if_true]
  rw [if_neg (by decide), if_neg (by decide), if_neg (by decide), if_neg (by decide), if_neg (by decide), if_neg (by decide), if_neg (by decide), if_neg (by decide)]
  rw [listsIn9 v b]
  rfl
theorem told8_9 {h : Hp} {N : Nat → Nat} {t u : Nat} (v : Vn N) (a : Pc h 1 N) (t2 : h.1 96 1 = nI t) (u2 : h.1 98 1 = nI u) : f_X8_told 0 9 h = some (bits4 (hasSeat N), h) := by
  unfold f_X8_told
  rw [if_pos (by decide)]
  unfold f_X8_told_25
  rw [if_pos (by decide)]
  unfold f_X8_told_50
  rw [if_pos (by decide)]
  unfold f_X8_told_75
  rw [if_neg (by decide), if_neg (by decide), if_neg (by decide), if_neg (by decide), if_neg (by decide), if_neg (by decide), if_neg (by decide), if_neg (by decide), if_neg (by decide), if_pos rfl]
  rw [show (0 + 1 : Nat) = 1 from rfl, wardBits8 v a]
  rfl
theorem told9_9 {h : Hp} {N : Nat → Nat} {t u : Nat} (v : Vn N) (b : Po h 109 N) (t3 : h.1 108 6 = nI t) (u3 : h.1 108 28 = nI u) : f_X9_told 108 9 h = some (bits4 (hasSeat N), h) := by
  unfold f_X9_told
  simp only [w9o_10_13 h (show (9 : Int32) < nI 10 ∨ nI 13 < (9 : Int32) from Or.inl (by decide)), w9o_20_25 h (show (9 : Int32) < nI 20 ∨ nI 25 < (9 : Int32) from Or.inl (by decide)), w9o_30_35 h (show (9 : Int32) < nI 30 ∨ nI 35 < (9 : Int32) from Or.inl (by decide)), Option.bind_some, if_true]
  rw [if_neg (by decide), if_neg (by decide), if_neg (by decide), if_neg (by decide), if_neg (by decide), if_neg (by decide), if_neg (by decide), if_neg (by decide), if_neg (by decide)]
  rw [wards9 v b]
  rfl
theorem told8_10 {h : Hp} {N : Nat → Nat} {t u : Nat} (v : Vn N) (a : Pc h 1 N) (t2 : h.1 96 1 = nI t) (u2 : h.1 98 1 = nI u) : f_X8_told 0 10 h = some (nI (N 24), h) := by
  unfold f_X8_told
  rw [if_neg (by decide), if_neg (by decide), if_pos (by decide), show h.1 (0 + 1 + 2) (Int32.toNatClampNeg (10 - 10)) = nI (N 24) from a 24 (by decide)]
theorem told9_10 {h : Hp} {N : Nat → Nat} {t u : Nat} (v : Vn N) (b : Po h 109 N) (t3 : h.1 108 6 = nI t) (u3 : h.1 108 28 = nI u) : f_X9_told 108 10 h = some (nI (N 24), h) := by
  show f_X9_told 108 (nI 10) h = _
  unfold f_X9_told
  simp only [w9i_10_13 h (show 10 ≤ 10 by decide) (show 10 ≤ 13 by decide), Option.bind_some, if_true, one_ne, if_false]
  rw [show (nI 10 - 10 : Int32) = nI 0 from by decide, seatsOf9 b (by decide)]
  rfl
theorem told8_11 {h : Hp} {N : Nat → Nat} {t u : Nat} (v : Vn N) (a : Pc h 1 N) (t2 : h.1 96 1 = nI t) (u2 : h.1 98 1 = nI u) : f_X8_told 0 11 h = some (nI (N 25), h) := by
  unfold f_X8_told
  rw [if_neg (by decide), if_neg (by decide), if_pos (by decide), show h.1 (0 + 1 + 2) (Int32.toNatClampNeg (11 - 10)) = nI (N 25) from a 25 (by decide)]
theorem told9_11 {h : Hp} {N : Nat → Nat} {t u : Nat} (v : Vn N) (b : Po h 109 N) (t3 : h.1 108 6 = nI t) (u3 : h.1 108 28 = nI u) : f_X9_told 108 11 h = some (nI (N 25), h) := by
  show f_X9_told 108 (nI 11) h = _
  unfold f_X9_told
  simp only [w9i_10_13 h (show 10 ≤ 11 by decide) (show 11 ≤ 13 by decide), Option.bind_some, if_true, one_ne, if_false]
  rw [show (nI 11 - 10 : Int32) = nI 1 from by decide, seatsOf9 b (by decide)]
  rfl
theorem told8_12 {h : Hp} {N : Nat → Nat} {t u : Nat} (v : Vn N) (a : Pc h 1 N) (t2 : h.1 96 1 = nI t) (u2 : h.1 98 1 = nI u) : f_X8_told 0 12 h = some (nI (N 26), h) := by
  unfold f_X8_told
  rw [if_neg (by decide), if_neg (by decide), if_pos (by decide), show h.1 (0 + 1 + 2) (Int32.toNatClampNeg (12 - 10)) = nI (N 26) from a 26 (by decide)]
theorem told9_12 {h : Hp} {N : Nat → Nat} {t u : Nat} (v : Vn N) (b : Po h 109 N) (t3 : h.1 108 6 = nI t) (u3 : h.1 108 28 = nI u) : f_X9_told 108 12 h = some (nI (N 26), h) := by
  show f_X9_told 108 (nI 12) h = _
  unfold f_X9_told
  simp only [w9i_10_13 h (show 10 ≤ 12 by decide) (show 12 ≤ 13 by decide), Option.bind_some, if_true, one_ne, if_false]
  rw [show (nI 12 - 10 : Int32) = nI 2 from by decide, seatsOf9 b (by decide)]
  rfl
theorem told8_13 {h : Hp} {N : Nat → Nat} {t u : Nat} (v : Vn N) (a : Pc h 1 N) (t2 : h.1 96 1 = nI t) (u2 : h.1 98 1 = nI u) : f_X8_told 0 13 h = some (nI (N 27), h) := by
  unfold f_X8_told
  rw [if_neg (by decide), if_neg (by decide), if_pos (by decide), show h.1 (0 + 1 + 2) (Int32.toNatClampNeg (13 - 10)) = nI (N 27) from a 27 (by decide)]
theorem told9_13 {h : Hp} {N : Nat → Nat} {t u : Nat} (v : Vn N) (b : Po h 109 N) (t3 : h.1 108 6 = nI t) (u3 : h.1 108 28 = nI u) : f_X9_told 108 13 h = some (nI (N 27), h) := by
  show f_X9_told 108 (nI 13) h = _
  unfold f_X9_told
  simp only [w9i_10_13 h (show 10 ≤ 13 by decide) (show 13 ≤ 13 by decide), Option.bind_some, if_true, one_ne, if_false]
  rw [show (nI 13 - 10 : Int32) = nI 3 from by decide, seatsOf9 b (by decide)]
  rfl
theorem told8_20 {h : Hp} {N : Nat → Nat} {t u : Nat} (v : Vn N) (a : Pc h 1 N) (t2 : h.1 96 1 = nI t) (u2 : h.1 98 1 = nI u) : f_X8_told 0 20 h = some (nI (N 28), h) := by
  unfold f_X8_told
  rw [if_neg (by decide), if_pos (by decide)]
  unfold f_X8_told_25
  rw [if_neg (by decide), if_neg (by decide), if_pos (by decide), show h.1 (0 + 1 + 3) (Int32.toNatClampNeg (20 - 20)) = nI (N 28) from a 28 (by decide)]
theorem told9_20 {h : Hp} {N : Nat → Nat} {t u : Nat} (v : Vn N) (b : Po h 109 N) (t3 : h.1 108 6 = nI t) (u3 : h.1 108 28 = nI u) : f_X9_told 108 20 h = some (nI (N 28), h) := by
  show f_X9_told 108 (nI 20) h = _
  unfold f_X9_told
  simp only [w9o_10_13 h (show nI 20 < nI 10 ∨ nI 13 < nI 20 from Or.inr (by decide)), w9i_20_25 h (show 20 ≤ 20 by decide) (show 20 ≤ 25 by decide), Option.bind_some, if_true, one_ne, if_false]
  rw [show (nI 20 - 20 : Int32) = nI 0 from by decide, leastOf9 b (by decide)]
  rfl
theorem told8_21 {h : Hp} {N : Nat → Nat} {t u : Nat} (v : Vn N) (a : Pc h 1 N) (t2 : h.1 96 1 = nI t) (u2 : h.1 98 1 = nI u) : f_X8_told 0 21 h = some (nI (N 29), h) := by
  unfold f_X8_told
  rw [if_neg (by decide), if_pos (by decide)]
  unfold f_X8_told_25
  rw [if_neg (by decide), if_neg (by decide), if_pos (by decide), show h.1 (0 + 1 + 3) (Int32.toNatClampNeg (21 - 20)) = nI (N 29) from a 29 (by decide)]
theorem told9_21 {h : Hp} {N : Nat → Nat} {t u : Nat} (v : Vn N) (b : Po h 109 N) (t3 : h.1 108 6 = nI t) (u3 : h.1 108 28 = nI u) : f_X9_told 108 21 h = some (nI (N 29), h) := by
  show f_X9_told 108 (nI 21) h = _
  unfold f_X9_told
  simp only [w9o_10_13 h (show nI 21 < nI 10 ∨ nI 13 < nI 21 from Or.inr (by decide)), w9i_20_25 h (show 20 ≤ 21 by decide) (show 21 ≤ 25 by decide), Option.bind_some, if_true, one_ne, if_false]
  rw [show (nI 21 - 20 : Int32) = nI 1 from by decide, leastOf9 b (by decide)]
  rfl
theorem told8_22 {h : Hp} {N : Nat → Nat} {t u : Nat} (v : Vn N) (a : Pc h 1 N) (t2 : h.1 96 1 = nI t) (u2 : h.1 98 1 = nI u) : f_X8_told 0 22 h = some (nI (N 30), h) := by
  unfold f_X8_told
  rw [if_neg (by decide), if_pos (by decide)]
  unfold f_X8_told_25
  rw [if_neg (by decide), if_neg (by decide), if_pos (by decide), show h.1 (0 + 1 + 3) (Int32.toNatClampNeg (22 - 20)) = nI (N 30) from a 30 (by decide)]
theorem told9_22 {h : Hp} {N : Nat → Nat} {t u : Nat} (v : Vn N) (b : Po h 109 N) (t3 : h.1 108 6 = nI t) (u3 : h.1 108 28 = nI u) : f_X9_told 108 22 h = some (nI (N 30), h) := by
  show f_X9_told 108 (nI 22) h = _
  unfold f_X9_told
  simp only [w9o_10_13 h (show nI 22 < nI 10 ∨ nI 13 < nI 22 from Or.inr (by decide)), w9i_20_25 h (show 20 ≤ 22 by decide) (show 22 ≤ 25 by decide), Option.bind_some, if_true, one_ne, if_false]
  rw [show (nI 22 - 20 : Int32) = nI 2 from by decide, leastOf9 b (by decide)]
  rfl
theorem told8_23 {h : Hp} {N : Nat → Nat} {t u : Nat} (v : Vn N) (a : Pc h 1 N) (t2 : h.1 96 1 = nI t) (u2 : h.1 98 1 = nI u) : f_X8_told 0 23 h = some (nI (N 31), h) := by
  unfold f_X8_told
  rw [if_neg (by decide), if_pos (by decide)]
  unfold f_X8_told_25
  rw [if_neg (by decide), if_neg (by decide), if_pos (by decide), show h.1 (0 + 1 + 3) (Int32.toNatClampNeg (23 - 20)) = nI (N 31) from a 31 (by decide)]
theorem told9_23 {h : Hp} {N : Nat → Nat} {t u : Nat} (v : Vn N) (b : Po h 109 N) (t3 : h.1 108 6 = nI t) (u3 : h.1 108 28 = nI u) : f_X9_told 108 23 h = some (nI (N 31), h) := by
  show f_X9_told 108 (nI 23) h = _
  unfold f_X9_told
  simp only [w9o_10_13 h (show nI 23 < nI 10 ∨ nI 13 < nI 23 from Or.inr (by decide)), w9i_20_25 h (show 20 ≤ 23 by decide) (show 23 ≤ 25 by decide), Option.bind_some, if_true, one_ne, if_false]
  rw [show (nI 23 - 20 : Int32) = nI 3 from by decide, leastOf9 b (by decide)]
  rfl
theorem told8_24 {h : Hp} {N : Nat → Nat} {t u : Nat} (v : Vn N) (a : Pc h 1 N) (t2 : h.1 96 1 = nI t) (u2 : h.1 98 1 = nI u) : f_X8_told 0 24 h = some (nI (N 32), h) := by
  unfold f_X8_told
  rw [if_neg (by decide), if_pos (by decide)]
  unfold f_X8_told_25
  rw [if_neg (by decide), if_neg (by decide), if_pos (by decide), show h.1 (0 + 1 + 3) (Int32.toNatClampNeg (24 - 20)) = nI (N 32) from a 32 (by decide)]
theorem told9_24 {h : Hp} {N : Nat → Nat} {t u : Nat} (v : Vn N) (b : Po h 109 N) (t3 : h.1 108 6 = nI t) (u3 : h.1 108 28 = nI u) : f_X9_told 108 24 h = some (nI (N 32), h) := by
  show f_X9_told 108 (nI 24) h = _
  unfold f_X9_told
  simp only [w9o_10_13 h (show nI 24 < nI 10 ∨ nI 13 < nI 24 from Or.inr (by decide)), w9i_20_25 h (show 20 ≤ 24 by decide) (show 24 ≤ 25 by decide), Option.bind_some, if_true, one_ne, if_false]
  rw [show (nI 24 - 20 : Int32) = nI 4 from by decide, leastOf9 b (by decide)]
  rfl
theorem told8_25 {h : Hp} {N : Nat → Nat} {t u : Nat} (v : Vn N) (a : Pc h 1 N) (t2 : h.1 96 1 = nI t) (u2 : h.1 98 1 = nI u) : f_X8_told 0 25 h = some (nI (N 33), h) := by
  unfold f_X8_told
  rw [if_neg (by decide), if_pos (by decide)]
  unfold f_X8_told_25
  rw [if_neg (by decide), if_neg (by decide), if_pos (by decide), show h.1 (0 + 1 + 3) (Int32.toNatClampNeg (25 - 20)) = nI (N 33) from a 33 (by decide)]
theorem told9_25 {h : Hp} {N : Nat → Nat} {t u : Nat} (v : Vn N) (b : Po h 109 N) (t3 : h.1 108 6 = nI t) (u3 : h.1 108 28 = nI u) : f_X9_told 108 25 h = some (nI (N 33), h) := by
  show f_X9_told 108 (nI 25) h = _
  unfold f_X9_told
  simp only [w9o_10_13 h (show nI 25 < nI 10 ∨ nI 13 < nI 25 from Or.inr (by decide)), w9i_20_25 h (show 20 ≤ 25 by decide) (show 25 ≤ 25 by decide), Option.bind_some, if_true, one_ne, if_false]
  rw [show (nI 25 - 20 : Int32) = nI 5 from by decide, leastOf9 b (by decide)]
  rfl
theorem told8_30 {h : Hp} {N : Nat → Nat} {t u : Nat} (v : Vn N) (a : Pc h 1 N) (t2 : h.1 96 1 = nI t) (u2 : h.1 98 1 = nI u) : f_X8_told 0 30 h = some (nI (N 34), h) := by
  unfold f_X8_told
  rw [if_neg (by decide), if_pos (by decide)]
  unfold f_X8_told_25
  rw [if_neg (by decide), if_pos (by decide)]
  unfold f_X8_told_50
  rw [if_neg (by decide), if_neg (by decide), if_pos (by decide), show h.1 (0 + 1 + 4) (Int32.toNatClampNeg (30 - 30)) = nI (N 34) from a 34 (by decide)]
theorem told9_30 {h : Hp} {N : Nat → Nat} {t u : Nat} (v : Vn N) (b : Po h 109 N) (t3 : h.1 108 6 = nI t) (u3 : h.1 108 28 = nI u) : f_X9_told 108 30 h = some (nI (N 34), h) := by
  show f_X9_told 108 (nI 30) h = _
  unfold f_X9_told
  simp only [w9o_10_13 h (show nI 30 < nI 10 ∨ nI 13 < nI 30 from Or.inr (by decide)), w9o_20_25 h (show nI 30 < nI 20 ∨ nI 25 < nI 30 from Or.inr (by decide)), w9i_30_35 h (show 30 ≤ 30 by decide) (show 30 ≤ 35 by decide), Option.bind_some, if_true, one_ne, if_false]
  rw [show (nI 30 - 30 : Int32) = nI 0 from by decide, listOf9 b (by decide)]
  rfl
theorem told8_31 {h : Hp} {N : Nat → Nat} {t u : Nat} (v : Vn N) (a : Pc h 1 N) (t2 : h.1 96 1 = nI t) (u2 : h.1 98 1 = nI u) : f_X8_told 0 31 h = some (nI (N 35), h) := by
  unfold f_X8_told
  rw [if_neg (by decide), if_pos (by decide)]
  unfold f_X8_told_25
  rw [if_neg (by decide), if_pos (by decide)]
  unfold f_X8_told_50
  rw [if_neg (by decide), if_neg (by decide), if_pos (by decide), show h.1 (0 + 1 + 4) (Int32.toNatClampNeg (31 - 30)) = nI (N 35) from a 35 (by decide)]
theorem told9_31 {h : Hp} {N : Nat → Nat} {t u : Nat} (v : Vn N) (b : Po h 109 N) (t3 : h.1 108 6 = nI t) (u3 : h.1 108 28 = nI u) : f_X9_told 108 31 h = some (nI (N 35), h) := by
  show f_X9_told 108 (nI 31) h = _
  unfold f_X9_told
  simp only [w9o_10_13 h (show nI 31 < nI 10 ∨ nI 13 < nI 31 from Or.inr (by decide)), w9o_20_25 h (show nI 31 < nI 20 ∨ nI 25 < nI 31 from Or.inr (by decide)), w9i_30_35 h (show 30 ≤ 31 by decide) (show 31 ≤ 35 by decide), Option.bind_some, if_true, one_ne, if_false]
  rw [show (nI 31 - 30 : Int32) = nI 1 from by decide, listOf9 b (by decide)]
  rfl
theorem told8_32 {h : Hp} {N : Nat → Nat} {t u : Nat} (v : Vn N) (a : Pc h 1 N) (t2 : h.1 96 1 = nI t) (u2 : h.1 98 1 = nI u) : f_X8_told 0 32 h = some (nI (N 36), h) := by
  unfold f_X8_told
  rw [if_neg (by decide), if_pos (by decide)]
  unfold f_X8_told_25
  rw [if_neg (by decide), if_pos (by decide)]
  unfold f_X8_told_50
  rw [if_neg (by decide), if_neg (by decide), if_pos (by decide), show h.1 (0 + 1 + 4) (Int32.toNatClampNeg (32 - 30)) = nI (N 36) from a 36 (by decide)]
theorem told9_32 {h : Hp} {N : Nat → Nat} {t u : Nat} (v : Vn N) (b : Po h 109 N) (t3 : h.1 108 6 = nI t) (u3 : h.1 108 28 = nI u) : f_X9_told 108 32 h = some (nI (N 36), h) := by
  show f_X9_told 108 (nI 32) h = _
  unfold f_X9_told
  simp only [w9o_10_13 h (show nI 32 < nI 10 ∨ nI 13 < nI 32 from Or.inr (by decide)), w9o_20_25 h (show nI 32 < nI 20 ∨ nI 25 < nI 32 from Or.inr (by decide)), w9i_30_35 h (show 30 ≤ 32 by decide) (show 32 ≤ 35 by decide), Option.bind_some, if_true, one_ne, if_false]
  rw [show (nI 32 - 30 : Int32) = nI 2 from by decide, listOf9 b (by decide)]
  rfl
theorem told8_33 {h : Hp} {N : Nat → Nat} {t u : Nat} (v : Vn N) (a : Pc h 1 N) (t2 : h.1 96 1 = nI t) (u2 : h.1 98 1 = nI u) : f_X8_told 0 33 h = some (nI (N 37), h) := by
  unfold f_X8_told
  rw [if_neg (by decide), if_pos (by decide)]
  unfold f_X8_told_25
  rw [if_neg (by decide), if_pos (by decide)]
  unfold f_X8_told_50
  rw [if_neg (by decide), if_neg (by decide), if_pos (by decide), show h.1 (0 + 1 + 4) (Int32.toNatClampNeg (33 - 30)) = nI (N 37) from a 37 (by decide)]
theorem told9_33 {h : Hp} {N : Nat → Nat} {t u : Nat} (v : Vn N) (b : Po h 109 N) (t3 : h.1 108 6 = nI t) (u3 : h.1 108 28 = nI u) : f_X9_told 108 33 h = some (nI (N 37), h) := by
  show f_X9_told 108 (nI 33) h = _
  unfold f_X9_told
  simp only [w9o_10_13 h (show nI 33 < nI 10 ∨ nI 13 < nI 33 from Or.inr (by decide)), w9o_20_25 h (show nI 33 < nI 20 ∨ nI 25 < nI 33 from Or.inr (by decide)), w9i_30_35 h (show 30 ≤ 33 by decide) (show 33 ≤ 35 by decide), Option.bind_some, if_true, one_ne, if_false]
  rw [show (nI 33 - 30 : Int32) = nI 3 from by decide, listOf9 b (by decide)]
  rfl
theorem told8_34 {h : Hp} {N : Nat → Nat} {t u : Nat} (v : Vn N) (a : Pc h 1 N) (t2 : h.1 96 1 = nI t) (u2 : h.1 98 1 = nI u) : f_X8_told 0 34 h = some (nI (N 38), h) := by
  unfold f_X8_told
  rw [if_neg (by decide), if_pos (by decide)]
  unfold f_X8_told_25
  rw [if_neg (by decide), if_pos (by decide)]
  unfold f_X8_told_50
  rw [if_neg (by decide), if_neg (by decide), if_pos (by decide), show h.1 (0 + 1 + 4) (Int32.toNatClampNeg (34 - 30)) = nI (N 38) from a 38 (by decide)]
theorem told9_34 {h : Hp} {N : Nat → Nat} {t u : Nat} (v : Vn N) (b : Po h 109 N) (t3 : h.1 108 6 = nI t) (u3 : h.1 108 28 = nI u) : f_X9_told 108 34 h = some (nI (N 38), h) := by
  show f_X9_told 108 (nI 34) h = _
  unfold f_X9_told
  simp only [w9o_10_13 h (show nI 34 < nI 10 ∨ nI 13 < nI 34 from Or.inr (by decide)), w9o_20_25 h (show nI 34 < nI 20 ∨ nI 25 < nI 34 from Or.inr (by decide)), w9i_30_35 h (show 30 ≤ 34 by decide) (show 34 ≤ 35 by decide), Option.bind_some, if_true, one_ne, if_false]
  rw [show (nI 34 - 30 : Int32) = nI 4 from by decide, listOf9 b (by decide)]
  rfl
theorem told8_35 {h : Hp} {N : Nat → Nat} {t u : Nat} (v : Vn N) (a : Pc h 1 N) (t2 : h.1 96 1 = nI t) (u2 : h.1 98 1 = nI u) : f_X8_told 0 35 h = some (nI (N 39), h) := by
  unfold f_X8_told
  rw [if_neg (by decide), if_pos (by decide)]
  unfold f_X8_told_25
  rw [if_neg (by decide), if_pos (by decide)]
  unfold f_X8_told_50
  rw [if_neg (by decide), if_neg (by decide), if_pos (by decide), show h.1 (0 + 1 + 4) (Int32.toNatClampNeg (35 - 30)) = nI (N 39) from a 39 (by decide)]
theorem told9_35 {h : Hp} {N : Nat → Nat} {t u : Nat} (v : Vn N) (b : Po h 109 N) (t3 : h.1 108 6 = nI t) (u3 : h.1 108 28 = nI u) : f_X9_told 108 35 h = some (nI (N 39), h) := by
  show f_X9_told 108 (nI 35) h = _
  unfold f_X9_told
  simp only [w9o_10_13 h (show nI 35 < nI 10 ∨ nI 13 < nI 35 from Or.inr (by decide)), w9o_20_25 h (show nI 35 < nI 20 ∨ nI 25 < nI 35 from Or.inr (by decide)), w9i_30_35 h (show 30 ≤ 35 by decide) (show 35 ≤ 35 by decide), Option.bind_some, if_true, one_ne, if_false]
  rw [show (nI 35 - 30 : Int32) = nI 5 from by decide, listOf9 b (by decide)]
  rfl
theorem told8_r {z1 : Int32} {h : Hp} (p10 : z1 < 10 ∨ 14 ≤ z1) (p20 : z1 < 20 ∨ 26 ≤ z1) (p30 : z1 < 30 ∨ 36 ≤ z1) (e0 : ¬ z1 = 0) (e1 : ¬ z1 = 1) (e2 : ¬ z1 = 2) (e3 : ¬ z1 = 3) (e4 : ¬ z1 = 4) (e5 : ¬ z1 = 5) (e6 : ¬ z1 = 6) (e7 : ¬ z1 = 7) (e8 : ¬ z1 = 8) (e9 : ¬ z1 = 9) : f_X8_told 0 z1 h = some (-1, h) := by
  have q1 : f_X8_told 0 z1 h = f_X8_told_25 0 z1 h := by
    unfold f_X8_told
    by_cases z : z1 < 10
    · rw [if_pos z]
    · rw [if_neg z, if_pos (p10.resolve_left z)]
  have q2 : f_X8_told_25 0 z1 h = f_X8_told_50 0 z1 h := by
    unfold f_X8_told_25
    by_cases z : z1 < 20
    · rw [if_pos z]
    · rw [if_neg z, if_pos (p20.resolve_left z)]
  have q3 : f_X8_told_50 0 z1 h = f_X8_told_75 0 z1 h := by
    unfold f_X8_told_50
    by_cases z : z1 < 30
    · rw [if_pos z]
    · rw [if_neg z, if_pos (p30.resolve_left z)]
  show f_X8_told 0 z1 h = _
  rw [q1, q2, q3]
  unfold f_X8_told_75
  rw [if_neg e0, if_neg e1, if_neg e2, if_neg e3, if_neg e4, if_neg e5, if_neg e6, if_neg e7, if_neg e8, if_neg e9]
theorem told9_r {z1 : Int32} {h : Hp} (o10 : z1 < nI 10 ∨ nI 13 < z1) (o20 : z1 < nI 20 ∨ nI 25 < z1) (o30 : z1 < nI 30 ∨ nI 35 < z1) (e0 : ¬ z1 = 0) (e1 : ¬ z1 = 1) (e2 : ¬ z1 = 2) (e3 : ¬ z1 = 3) (e4 : ¬ z1 = 4) (e5 : ¬ z1 = 5) (e6 : ¬ z1 = 6) (e7 : ¬ z1 = 7) (e8 : ¬ z1 = 8) (e9 : ¬ z1 = 9) : f_X9_told 108 z1 h = some (-1, h) := by
  show f_X9_told 108 z1 h = _
  unfold f_X9_told
  rw [w9o_10_13 h o10, Option.bind_some, if_pos rfl, w9o_20_25 h o20, Option.bind_some, if_pos rfl, w9o_30_35 h o30, Option.bind_some, if_pos rfl, if_neg e0, if_neg e1, if_neg e2, if_neg e3, if_neg e4, if_neg e5, if_neg e6, if_neg e7, if_neg e8, if_neg e9]

theorem op_told (z1 : Int32) : Op (Rel PK) (fun h => f_X8_told 0 z1 h) (fun h => f_X9_told 108 z1 h) := by
  intro h ⟨N, hR⟩
  have a := hR.2.1
  have b := hR.2.2.1
  have v := hR.1
  obtain ⟨t, t1, t2, t3, t4⟩ := hR.2.2.2.2.1
  obtain ⟨u, u1, u2, u3, u4⟩ := hR.2.2.2.2.2.1
  by_cases e0 : z1 = 0
  · subst e0
    exact same_op (r := nI (allV N)) ⟨N, hR⟩ (told8_0 (t := t) (u := u) v a t2 u2) (told9_0 (t := t) (u := u) v b t3 u3)
  by_cases e1 : z1 = 1
  · subst e1
    exact same_op (r := nI (seatsA N)) ⟨N, hR⟩ (told8_1 (t := t) (u := u) v a t2 u2) (told9_1 (t := t) (u := u) v b t3 u3)
  by_cases e2 : z1 = 2
  · subst e2
    exact same_op (r := nI (N 41)) ⟨N, hR⟩ (told8_2 (t := t) (u := u) v a t2 u2) (told9_2 (t := t) (u := u) v b t3 u3)
  by_cases e3 : z1 = 3
  · subst e3
    exact same_op (r := nI (N 40)) ⟨N, hR⟩ (told8_3 (t := t) (u := u) v a t2 u2) (told9_3 (t := t) (u := u) v b t3 u3)
  by_cases e4 : z1 = 4
  · subst e4
    exact same_op (r := nI (N 42)) ⟨N, hR⟩ (told8_4 (t := t) (u := u) v a t2 u2) (told9_4 (t := t) (u := u) v b t3 u3)
  by_cases e5 : z1 = 5
  · subst e5
    exact same_op (r := nI (N 43)) ⟨N, hR⟩ (told8_5 (t := t) (u := u) v a t2 u2) (told9_5 (t := t) (u := u) v b t3 u3)
  by_cases e6 : z1 = 6
  · subst e6
    exact same_op (r := nI t) ⟨N, hR⟩ (told8_6 (t := t) (u := u) v a t2 u2) (told9_6 (t := t) (u := u) v b t3 u3)
  by_cases e7 : z1 = 7
  · subst e7
    exact same_op (r := nI u) ⟨N, hR⟩ (told8_7 (t := t) (u := u) v a t2 u2) (told9_7 (t := t) (u := u) v b t3 u3)
  by_cases e8 : z1 = 8
  · subst e8
    exact same_op (r := listB N) ⟨N, hR⟩ (told8_8 (t := t) (u := u) v a t2 u2) (told9_8 (t := t) (u := u) v b t3 u3)
  by_cases e9 : z1 = 9
  · subst e9
    exact same_op (r := bits4 (hasSeat N)) ⟨N, hR⟩ (told8_9 (t := t) (u := u) v a t2 u2) (told9_9 (t := t) (u := u) v b t3 u3)
  by_cases e10 : z1 = 10
  · subst e10
    exact same_op (r := nI (N 24)) ⟨N, hR⟩ (told8_10 (t := t) (u := u) v a t2 u2) (told9_10 (t := t) (u := u) v b t3 u3)
  by_cases e11 : z1 = 11
  · subst e11
    exact same_op (r := nI (N 25)) ⟨N, hR⟩ (told8_11 (t := t) (u := u) v a t2 u2) (told9_11 (t := t) (u := u) v b t3 u3)
  by_cases e12 : z1 = 12
  · subst e12
    exact same_op (r := nI (N 26)) ⟨N, hR⟩ (told8_12 (t := t) (u := u) v a t2 u2) (told9_12 (t := t) (u := u) v b t3 u3)
  by_cases e13 : z1 = 13
  · subst e13
    exact same_op (r := nI (N 27)) ⟨N, hR⟩ (told8_13 (t := t) (u := u) v a t2 u2) (told9_13 (t := t) (u := u) v b t3 u3)
  by_cases e20 : z1 = 20
  · subst e20
    exact same_op (r := nI (N 28)) ⟨N, hR⟩ (told8_20 (t := t) (u := u) v a t2 u2) (told9_20 (t := t) (u := u) v b t3 u3)
  by_cases e21 : z1 = 21
  · subst e21
    exact same_op (r := nI (N 29)) ⟨N, hR⟩ (told8_21 (t := t) (u := u) v a t2 u2) (told9_21 (t := t) (u := u) v b t3 u3)
  by_cases e22 : z1 = 22
  · subst e22
    exact same_op (r := nI (N 30)) ⟨N, hR⟩ (told8_22 (t := t) (u := u) v a t2 u2) (told9_22 (t := t) (u := u) v b t3 u3)
  by_cases e23 : z1 = 23
  · subst e23
    exact same_op (r := nI (N 31)) ⟨N, hR⟩ (told8_23 (t := t) (u := u) v a t2 u2) (told9_23 (t := t) (u := u) v b t3 u3)
  by_cases e24 : z1 = 24
  · subst e24
    exact same_op (r := nI (N 32)) ⟨N, hR⟩ (told8_24 (t := t) (u := u) v a t2 u2) (told9_24 (t := t) (u := u) v b t3 u3)
  by_cases e25 : z1 = 25
  · subst e25
    exact same_op (r := nI (N 33)) ⟨N, hR⟩ (told8_25 (t := t) (u := u) v a t2 u2) (told9_25 (t := t) (u := u) v b t3 u3)
  by_cases e30 : z1 = 30
  · subst e30
    exact same_op (r := nI (N 34)) ⟨N, hR⟩ (told8_30 (t := t) (u := u) v a t2 u2) (told9_30 (t := t) (u := u) v b t3 u3)
  by_cases e31 : z1 = 31
  · subst e31
    exact same_op (r := nI (N 35)) ⟨N, hR⟩ (told8_31 (t := t) (u := u) v a t2 u2) (told9_31 (t := t) (u := u) v b t3 u3)
  by_cases e32 : z1 = 32
  · subst e32
    exact same_op (r := nI (N 36)) ⟨N, hR⟩ (told8_32 (t := t) (u := u) v a t2 u2) (told9_32 (t := t) (u := u) v b t3 u3)
  by_cases e33 : z1 = 33
  · subst e33
    exact same_op (r := nI (N 37)) ⟨N, hR⟩ (told8_33 (t := t) (u := u) v a t2 u2) (told9_33 (t := t) (u := u) v b t3 u3)
  by_cases e34 : z1 = 34
  · subst e34
    exact same_op (r := nI (N 38)) ⟨N, hR⟩ (told8_34 (t := t) (u := u) v a t2 u2) (told9_34 (t := t) (u := u) v b t3 u3)
  by_cases e35 : z1 = 35
  · subst e35
    exact same_op (r := nI (N 39)) ⟨N, hR⟩ (told8_35 (t := t) (u := u) v a t2 u2) (told9_35 (t := t) (u := u) v b t3 u3)
  have o10 : z1 < nI 10 ∨ nI 13 < z1 := outr (by decide) (by decide) (fun j h1 h2 => by
    rcases (show j = 10 ∨ j = 11 ∨ j = 12 ∨ j = 13 by omega) with rfl | rfl | rfl | rfl
    · exact fun z => e10 (z.trans (by decide))
    · exact fun z => e11 (z.trans (by decide))
    · exact fun z => e12 (z.trans (by decide))
    · exact fun z => e13 (z.trans (by decide)))
  have p10 : z1 < 10 ∨ 14 ≤ z1 := outp (by decide) o10
  have o20 : z1 < nI 20 ∨ nI 25 < z1 := outr (by decide) (by decide) (fun j h1 h2 => by
    rcases (show j = 20 ∨ j = 21 ∨ j = 22 ∨ j = 23 ∨ j = 24 ∨ j = 25 by omega) with rfl | rfl | rfl | rfl | rfl | rfl
    · exact fun z => e20 (z.trans (by decide))
    · exact fun z => e21 (z.trans (by decide))
    · exact fun z => e22 (z.trans (by decide))
    · exact fun z => e23 (z.trans (by decide))
    · exact fun z => e24 (z.trans (by decide))
    · exact fun z => e25 (z.trans (by decide)))
  have p20 : z1 < 20 ∨ 26 ≤ z1 := outp (by decide) o20
  have o30 : z1 < nI 30 ∨ nI 35 < z1 := outr (by decide) (by decide) (fun j h1 h2 => by
    rcases (show j = 30 ∨ j = 31 ∨ j = 32 ∨ j = 33 ∨ j = 34 ∨ j = 35 by omega) with rfl | rfl | rfl | rfl | rfl | rfl
    · exact fun z => e30 (z.trans (by decide))
    · exact fun z => e31 (z.trans (by decide))
    · exact fun z => e32 (z.trans (by decide))
    · exact fun z => e33 (z.trans (by decide))
    · exact fun z => e34 (z.trans (by decide))
    · exact fun z => e35 (z.trans (by decide)))
  have p30 : z1 < 30 ∨ 36 ≤ z1 := outp (by decide) o30
  exact same_op (r := -1) ⟨N, hR⟩ (told8_r p10 p20 p30 e0 e1 e2 e3 e4 e5 e6 e7 e8 e9) (told9_r o10 o20 o30 e0 e1 e2 e3 e4 e5 e6 e7 e8 e9)
end TOLD
