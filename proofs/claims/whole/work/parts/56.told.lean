def B1 (b : Bool) (k : Nat) (x : Int32) : Int32 := if b = true then x ||| (1 <<< (nI k &&& 31)) else x
def B6 (b0 b1 b2 b3 b4 b5 : Bool) : Int32 := B1 b5 5 (B1 b4 4 (B1 b3 3 (B1 b2 2 (B1 b1 1 (B1 b0 0 0)))))
def B4 (b0 b1 b2 b3 : Bool) : Int32 := B1 b3 3 (B1 b2 2 (B1 b1 1 (B1 b0 0 0)))
theorem bits6_eq (Q : Nat → Bool) : bits6 Q = B6 (Q 0) (Q 1) (Q 2) (Q 3) (Q 4) (Q 5) := rfl
theorem bits4_eq (Q : Nat → Bool) : bits4 Q = B4 (Q 0) (Q 1) (Q 2) (Q 3) := rfl
theorem B6_holds : ∀ b0 b1 b2 b3 b4 b5 : Bool, (((B6 b0 b1 b2 b3 b4 b5 >>> (nI 0 &&& 31)) &&& 1 = 0) ↔ b0 = false) ∧ (((B6 b0 b1 b2 b3 b4 b5 >>> (nI 1 &&& 31)) &&& 1 = 0) ↔ b1 = false) ∧ (((B6 b0 b1 b2 b3 b4 b5 >>> (nI 2 &&& 31)) &&& 1 = 0) ↔ b2 = false) ∧ (((B6 b0 b1 b2 b3 b4 b5 >>> (nI 3 &&& 31)) &&& 1 = 0) ↔ b3 = false) ∧ (((B6 b0 b1 b2 b3 b4 b5 >>> (nI 4 &&& 31)) &&& 1 = 0) ↔ b4 = false) ∧ (((B6 b0 b1 b2 b3 b4 b5 >>> (nI 5 &&& 31)) &&& 1 = 0) ↔ b5 = false) := by decide +kernel
theorem B4_holds : ∀ b0 b1 b2 b3 : Bool, (((B4 b0 b1 b2 b3 >>> (nI 0 &&& 31)) &&& 1 = 0) ↔ b0 = false) ∧ (((B4 b0 b1 b2 b3 >>> (nI 1 &&& 31)) &&& 1 = 0) ↔ b1 = false) ∧ (((B4 b0 b1 b2 b3 >>> (nI 2 &&& 31)) &&& 1 = 0) ↔ b2 = false) ∧ (((B4 b0 b1 b2 b3 >>> (nI 3 &&& 31)) &&& 1 = 0) ↔ b3 = false) := by decide +kernel
theorem holds_of {x : Int32} {i : Nat} {b : Bool} (h : Hp) (e : ((x >>> (nI i &&& 31)) &&& 1 = 0) ↔ b = false) : f_X8_holds x (nI i) h = some (if b = true then 1 else 0, h) := by
  unfold f_X8_holds
  cases b with
  | false =>
    rw [if_pos (e.mpr rfl)]
    rfl
  | true =>
    rw [if_neg (fun z => by cases e.mp z)]
    rfl
theorem holds6 (Q : Nat → Bool) {i : Nat} (hi : i < 6) (h : Hp) : f_X8_holds (bits6 Q) (nI i) h = some (if Q i = true then 1 else 0, h) := by
  have e := B6_holds (Q 0) (Q 1) (Q 2) (Q 3) (Q 4) (Q 5)
  rw [← bits6_eq] at e
  rcases (show i = 0 ∨ i = 1 ∨ i = 2 ∨ i = 3 ∨ i = 4 ∨ i = 5 by omega) with rfl | rfl | rfl | rfl | rfl | rfl
  · exact holds_of h e.1
  · exact holds_of h e.2.1
  · exact holds_of h e.2.2.1
  · exact holds_of h e.2.2.2.1
  · exact holds_of h e.2.2.2.2.1
  · exact holds_of h e.2.2.2.2.2
theorem holds4 (Q : Nat → Bool) {i : Nat} (hi : i < 4) (h : Hp) : f_X8_holds (bits4 Q) (nI i) h = some (if Q i = true then 1 else 0, h) := by
  have e := B4_holds (Q 0) (Q 1) (Q 2) (Q 3)
  rw [← bits4_eq] at e
  rcases (show i = 0 ∨ i = 1 ∨ i = 2 ∨ i = 3 by omega) with rfl | rfl | rfl | rfl
  · exact holds_of h e.1
  · exact holds_of h e.2.1
  · exact holds_of h e.2.2.1
  · exact holds_of h e.2.2.2
def lstS (N : Nat → Nat) (i : Nat) (x : Int32) : Int32 := if isInN N i = true then x ||| (1 <<< (nI (N (34 + i)) &&& 31)) else x
def listB (N : Nat → Nat) : Int32 := fld (lstS N) 6 0 0
theorem listOf8 {h : Hp} {p : Nat} {N : Nat → Nat} (a : Pc h p N) {i : Nat} (hi : i < 6) : h.1 (p + 4) i = nI (N (34 + i)) := by
  have e := a (34 + i) (by omega)
  have q : lc (34 + i) = (4, i) := by
    unfold lc
    rw [if_neg (by omega), if_neg (by omega), if_neg (by omega), if_pos (by omega)]
    congr 1
    omega
  rw [q] at e
  exact e
theorem leasts8 {h : Hp} {p : Nat} {N : Nat → Nat} (a : Pc h p N) {i : Nat} (hi : i < 6) : h.1 (p + 3) i = nI (N (28 + i)) := by
  have e := a (28 + i) (by omega)
  have q : lc (28 + i) = (3, i) := by
    unfold lc
    rw [if_neg (by omega), if_neg (by omega), if_pos (by omega)]
    congr 1
    omega
  rw [q] at e
  exact e
theorem wseats8 {h : Hp} {p : Nat} {N : Nat → Nat} (a : Pc h p N) {i : Nat} (hi : i < 4) : h.1 (p + 2) i = nI (N (24 + i)) := by
  have e := a (24 + i) (by omega)
  have q : lc (24 + i) = (2, i) := by
    unfold lc
    rw [if_neg (by omega), if_pos (by omega)]
    congr 1
    omega
  rw [q] at e
  exact e
theorem cast8 {h : Hp} {p : Nat} {N : Nat → Nat} (a : Pc h p N) {i : Nat} (hi : i < 24) : h.1 (p + 1) i = nI (N i) := by
  have e := a i (by omega)
  rw [show lc i = (1, i) from if_pos hi] at e
  exact e
theorem listBits8 {h : Hp} {p : Nat} {N : Nat → Nat} (v : Vn N) (a : Pc h p N) : f_X3_listBits p h = some (listB N, h) := by
  unfold f_X3_listBits
  rw [inBits8 v a, Option.bind_some]
  have e := lp_for (F := Nat → Int32 → Int32 → Int32 → Hp → Option (Int32 × Hp)) (bot := fun _ _ _ _ _ => none) (G := f_X3_listBits_9) (fun K i x => K p (bits6 (isInN N)) x (nI i) h) 6 (lstS N) (fun x => some (x, h)) ?_ ?_ 1000 0 0 (by omega) (by omega)
  · exact e
  · intro K i x hi
    show f_X3_listBits_9 K p (bits6 (isInN N)) x (nI i) h = K p _ _ (nI (i + 1)) h
    unfold f_X3_listBits_9 f_X3_listBits_34
    rw [if_neg (show ¬ (6 : Int32) ≤ nI i from nI_ge hi (by decide)), holds6 _ hi]
    simp only [Option.bind_some, lt, nI_1]
    unfold lstS
    by_cases h0 : isInN N i = true
    · rw [if_pos h0, if_neg one_ne, if_pos (ix_nI hi (by decide)), if_pos h0, nI_clamp (by omega), listOf8 a hi]
    · rw [if_neg h0, if_pos rfl, if_neg h0]
  · intro K x
    show f_X3_listBits_9 K p _ x (nI 6) h = some (x, h)
    unfold f_X3_listBits_9
    rw [if_pos (show (6 : Int32) ≤ nI 6 by decide)]
theorem listsIn9 {h : Hp} {N : Nat → Nat} (v : Vn N) (a : Po h 109 N) : f_X9_listsIn 108 h = some (listB N, h) := by
  unfold f_X9_listsIn
  have e := lp_for (F := Nat → Int32 → Int32 → Hp → Option (Int32 × Hp)) (bot := fun _ _ _ _ => none) (G := f_X9_listsIn_4) (fun K i x => K 108 x (nI i) h) 6 (lstS N) (fun x => some (x, h)) ?_ ?_ 1000 0 0 (by omega) (by omega)
  · exact e
  · intro K i x hi
    show f_X9_listsIn_4 K 108 x (nI i) h = K 108 _ (nI (i + 1)) h
    unfold f_X9_listsIn_4 f_X9_listsIn_30
    rw [if_neg (show ¬ (6 : Int32) ≤ nI i from nI_ge hi (by decide)), isIn9 v a hi]
    simp only [Option.bind_some, lt, nI_1]
    unfold lstS
    by_cases h0 : isInN N i = true
    · rw [if_pos h0, if_neg one_ne, if_pos h0, listOf9 a hi]
      rfl
    · rw [if_neg h0, if_pos rfl, if_neg h0, or0]
  · intro K x
    show f_X9_listsIn_4 K 108 x (nI 6) h = some (x, h)
    unfold f_X9_listsIn_4
    rw [if_pos (show (6 : Int32) ≤ nI 6 by decide)]
def hasSeat (N : Nat → Nat) (w : Nat) : Bool := decide (0 < N (24 + w))
theorem ws_le {N : Nat → Nat} (v : Vn N) {w : Nat} (hw : w < 4) : N (24 + w) ≤ 30 := by
  have := v.1 (24 + w) (by omega)
  unfold bd at this
  rw [if_neg (by omega), if_pos (by omega)] at this
  exact this
theorem wardBits8 {h : Hp} {p : Nat} {N : Nat → Nat} (v : Vn N) (a : Pc h p N) : f_X3_wardBits p h = some (bits4 (hasSeat N), h) := by
  unfold f_X3_wardBits
  have e := lp_for (F := Nat → Int32 → Int32 → Hp → Option (Int32 × Hp)) (bot := fun _ _ _ _ => none) (G := f_X3_wardBits_4) (fun K i x => K p x (nI i) h) 4 (bitS (hasSeat N)) (fun x => some (x, h)) ?_ ?_ 1000 0 0 (by omega) (by omega)
  · exact e
  · intro K i x hi
    show f_X3_wardBits_4 K p x (nI i) h = K p _ (nI (i + 1)) h
    have hl := ws_le v hi
    unfold f_X3_wardBits_4 f_X3_wardBits_24
    rw [if_neg (show ¬ (4 : Int32) ≤ nI i from nI_ge hi (by decide)), if_pos (ix_nI hi (by decide)), nI_clamp (by omega), wseats8 a hi]
    simp only [lt, nI_1]
    unfold bitS hasSeat
    by_cases h0 : N (24 + i) = 0
    · rw [h0, if_pos (show nI 0 ≤ 0 by decide), if_neg (by simp)]
    · rw [if_neg (nI_nle (by omega) (by omega)), if_pos (by simp; omega)]
  · intro K x
    show f_X3_wardBits_4 K p x (nI 4) h = some (x, h)
    unfold f_X3_wardBits_4
    rw [if_pos (show (4 : Int32) ≤ nI 4 by decide)]
theorem wards9 {h : Hp} {N : Nat → Nat} (v : Vn N) (a : Po h 109 N) : f_X9_wardsWithSeats 108 h = some (bits4 (hasSeat N), h) := by
  unfold f_X9_wardsWithSeats
  have e := lp_for (F := Nat → Int32 → Int32 → Hp → Option (Int32 × Hp)) (bot := fun _ _ _ _ => none) (G := f_X9_wardsWithSeats_4) (fun K i x => K 108 x (nI i) h) 4 (bitS (hasSeat N)) (fun x => some (x, h)) ?_ ?_ 1000 0 0 (by omega) (by omega)
  · exact e
  · intro K i x hi
    show f_X9_wardsWithSeats_4 K 108 x (nI i) h = K 108 _ (nI (i + 1)) h
    have hl := ws_le v hi
    unfold f_X9_wardsWithSeats_4 f_X9_wardsWithSeats_25
    rw [if_neg (show ¬ (4 : Int32) ≤ nI i from nI_ge hi (by decide)), seatsOf9 a hi]
    simp only [Option.bind_some, lt, nI_1]
    unfold bitS hasSeat
    by_cases h0 : N (24 + i) = 0
    · rw [h0, if_pos (show nI 0 ≤ 0 by decide), if_neg (by simp), or0]
    · rw [if_neg (nI_nle (by omega) (by omega)), if_pos (by simp; omega)]
  · intro K x
    show f_X9_wardsWithSeats_4 K 108 x (nI 4) h = some (x, h)
    unfold f_X9_wardsWithSeats_4
    rw [if_pos (show (4 : Int32) ≤ nI 4 by decide)]
theorem outr {x : Int32} {lo hi : Nat} (h1 : hi + 1 < 2 ^ 31) (h : ∀ j, lo ≤ j → j ≤ hi → ¬ x = nI j) : (x < nI lo ∨ nI hi < x) := by
  by_cases h2 : x < 0
  · exact Or.inl (Int32.lt_of_lt_of_le h2 (nI_pos' (n := lo) (by
      by_cases h3 : lo ≤ hi
      · omega
      · exact absurd rfl (fun _ => by omega))))
  · obtain ⟨j, hj, rfl⟩ := nI_of h2
    by_cases h3 : j < lo
    · by_cases h4 : lo < 2 ^ 31
      · exact Or.inl (nI_lt h3 h4)
      · omega
    · exact Or.inr (nI_lt (by
        have := h j (by omega)
        rcases Nat.lt_or_ge hi j with q | q
        · exact q
        · exact absurd rfl (this q)) hj)
section TOLD
variable {PK : (Nat → Nat) → Hp → Prop}
theorem op_told (z1 : Int32) : Op (Rel PK) (fun h => f_X8_told 0 z1 h) (fun h => f_X9_told 108 z1 h) := by
  intro h ⟨N, hR⟩
  have a := hR.2.1
  have b := hR.2.2.1
  have v := hR.1
  obtain ⟨t, t1, t2, t3, t4⟩ := hR.2.2.2.2.1
  obtain ⟨u, u1, u2, u3, u4⟩ := hR.2.2.2.2.2.1
  by_cases e0 : z1 = 0
  · subst e0
    refine same_op (r := nI (allV N)) ⟨N, hR⟩ ?_ ?_
    · show (f_X3_sumOfAll 1 h).bind _ = _
      rw [all8 a]
      rfl
    · show (f_X9_all 108 h).bind _ = _
      rw [all9 b]
      rfl
  by_cases e1 : z1 = 1
  · subst e1
    refine same_op (r := nI (seatsA N)) ⟨N, hR⟩ ?_ ?_
    · show (f_X3_sumOfSeats 1 h).bind _ = _
      rw [seats8 a]
      rfl
    · show (f_X9_allSeats 108 h).bind _ = _
      rw [seats9 b]
      rfl
  by_cases e2 : z1 = 2
  · subst e2
    refine same_op (r := nI (N 41)) ⟨N, hR⟩ ?_ ?_
    · show some (h.1 1 5, h) = _
      rw [show h.1 1 5 = nI (N 41) from a 41 (by decide)]
    · show some (h.1 109 41, h) = _
      rw [b 41 (by decide)]
  by_cases e3 : z1 = 3
  · subst e3
    refine same_op (r := nI (N 40)) ⟨N, hR⟩ ?_ ?_
    · show some (h.1 1 4, h) = _
      rw [show h.1 1 4 = nI (N 40) from a 40 (by decide)]
    · show some (h.1 109 40, h) = _
      rw [b 40 (by decide)]
  by_cases e4 : z1 = 4
  · subst e4
    refine same_op (r := nI (N 42)) ⟨N, hR⟩ ?_ ?_
    · show some (h.1 1 6, h) = _
      rw [show h.1 1 6 = nI (N 42) from a 42 (by decide)]
    · show some (h.1 109 42, h) = _
      rw [b 42 (by decide)]
  by_cases e5 : z1 = 5
  · subst e5
    refine same_op (r := nI (N 43)) ⟨N, hR⟩ ?_ ?_
    · show some (h.1 1 7, h) = _
      rw [show h.1 1 7 = nI (N 43) from a 43 (by decide)]
    · show some (h.1 109 43, h) = _
      rw [b 43 (by decide)]
  by_cases e6 : z1 = 6
  · subst e6
    refine same_op (r := nI t) ⟨N, hR⟩ ?_ ?_
    · show some (h.1 96 1, h) = _
      rw [t2]
    · show some (h.1 108 6, h) = _
      rw [t3]
  by_cases e7 : z1 = 7
  · subst e7
    refine same_op (r := nI u) ⟨N, hR⟩ ?_ ?_
    · show some (h.1 98 1, h) = _
      rw [u2]
    · show some (h.1 108 28, h) = _
      rw [u3]
  by_cases e8 : z1 = 8
  · subst e8
    refine same_op (r := listB N) ⟨N, hR⟩ ?_ ?_
    · show (f_X3_listBits 1 h).bind _ = _
      rw [listBits8 v a]
      rfl
    · show (f_X9_listsIn 108 h).bind _ = _
      rw [listsIn9 v b]
      rfl
  by_cases e9 : z1 = 9
  · subst e9
    refine same_op (r := bits4 (hasSeat N)) ⟨N, hR⟩ ?_ ?_
    · show (f_X3_wardBits 1 h).bind _ = _
      rw [wardBits8 v a]
      rfl
    · show (f_X9_wardsWithSeats 108 h).bind _ = _
      rw [wards9 v b]
      rfl
  by_cases e10 : z1 = 10
  · subst e10
    refine same_op (r := nI (N 24)) ⟨N, hR⟩ ?_ ?_
    · show some (h.1 3 0, h) = _
      rw [show h.1 3 0 = nI (N 24) from a 24 (by decide)]
    · show some (h.1 109 24, h) = _
      rw [b 24 (by decide)]
  by_cases e11 : z1 = 11
  · subst e11
    refine same_op (r := nI (N 25)) ⟨N, hR⟩ ?_ ?_
    · show some (h.1 3 1, h) = _
      rw [show h.1 3 1 = nI (N 25) from a 25 (by decide)]
    · show some (h.1 109 25, h) = _
      rw [b 25 (by decide)]
  by_cases e12 : z1 = 12
  · subst e12
    refine same_op (r := nI (N 26)) ⟨N, hR⟩ ?_ ?_
    · show some (h.1 3 2, h) = _
      rw [show h.1 3 2 = nI (N 26) from a 26 (by decide)]
    · show some (h.1 109 26, h) = _
      rw [b 26 (by decide)]
  by_cases e13 : z1 = 13
  · subst e13
    refine same_op (r := nI (N 27)) ⟨N, hR⟩ ?_ ?_
    · show some (h.1 3 3, h) = _
      rw [show h.1 3 3 = nI (N 27) from a 27 (by decide)]
    · show some (h.1 109 27, h) = _
      rw [b 27 (by decide)]
  by_cases e20 : z1 = 20
  · subst e20
    refine same_op (r := nI (N 28)) ⟨N, hR⟩ ?_ ?_
    · show some (h.1 4 0, h) = _
      rw [show h.1 4 0 = nI (N 28) from a 28 (by decide)]
    · show some (h.1 109 28, h) = _
      rw [b 28 (by decide)]
  by_cases e21 : z1 = 21
  · subst e21
    refine same_op (r := nI (N 29)) ⟨N, hR⟩ ?_ ?_
    · show some (h.1 4 1, h) = _
      rw [show h.1 4 1 = nI (N 29) from a 29 (by decide)]
    · show some (h.1 109 29, h) = _
      rw [b 29 (by decide)]
  by_cases e22 : z1 = 22
  · subst e22
    refine same_op (r := nI (N 30)) ⟨N, hR⟩ ?_ ?_
    · show some (h.1 4 2, h) = _
      rw [show h.1 4 2 = nI (N 30) from a 30 (by decide)]
    · show some (h.1 109 30, h) = _
      rw [b 30 (by decide)]
  by_cases e23 : z1 = 23
  · subst e23
    refine same_op (r := nI (N 31)) ⟨N, hR⟩ ?_ ?_
    · show some (h.1 4 3, h) = _
      rw [show h.1 4 3 = nI (N 31) from a 31 (by decide)]
    · show some (h.1 109 31, h) = _
      rw [b 31 (by decide)]
  by_cases e24 : z1 = 24
  · subst e24
    refine same_op (r := nI (N 32)) ⟨N, hR⟩ ?_ ?_
    · show some (h.1 4 4, h) = _
      rw [show h.1 4 4 = nI (N 32) from a 32 (by decide)]
    · show some (h.1 109 32, h) = _
      rw [b 32 (by decide)]
  by_cases e25 : z1 = 25
  · subst e25
    refine same_op (r := nI (N 33)) ⟨N, hR⟩ ?_ ?_
    · show some (h.1 4 5, h) = _
      rw [show h.1 4 5 = nI (N 33) from a 33 (by decide)]
    · show some (h.1 109 33, h) = _
      rw [b 33 (by decide)]
  by_cases e30 : z1 = 30
  · subst e30
    refine same_op (r := nI (N 34)) ⟨N, hR⟩ ?_ ?_
    · show some (h.1 5 0, h) = _
      rw [show h.1 5 0 = nI (N 34) from a 34 (by decide)]
    · show some (h.1 109 34, h) = _
      rw [b 34 (by decide)]
  by_cases e31 : z1 = 31
  · subst e31
    refine same_op (r := nI (N 35)) ⟨N, hR⟩ ?_ ?_
    · show some (h.1 5 1, h) = _
      rw [show h.1 5 1 = nI (N 35) from a 35 (by decide)]
    · show some (h.1 109 35, h) = _
      rw [b 35 (by decide)]
  by_cases e32 : z1 = 32
  · subst e32
    refine same_op (r := nI (N 36)) ⟨N, hR⟩ ?_ ?_
    · show some (h.1 5 2, h) = _
      rw [show h.1 5 2 = nI (N 36) from a 36 (by decide)]
    · show some (h.1 109 36, h) = _
      rw [b 36 (by decide)]
  by_cases e33 : z1 = 33
  · subst e33
    refine same_op (r := nI (N 37)) ⟨N, hR⟩ ?_ ?_
    · show some (h.1 5 3, h) = _
      rw [show h.1 5 3 = nI (N 37) from a 37 (by decide)]
    · show some (h.1 109 37, h) = _
      rw [b 37 (by decide)]
  by_cases e34 : z1 = 34
  · subst e34
    refine same_op (r := nI (N 38)) ⟨N, hR⟩ ?_ ?_
    · show some (h.1 5 4, h) = _
      rw [show h.1 5 4 = nI (N 38) from a 38 (by decide)]
    · show some (h.1 109 38, h) = _
      rw [b 38 (by decide)]
  by_cases e35 : z1 = 35
  · subst e35
    refine same_op (r := nI (N 39)) ⟨N, hR⟩ ?_ ?_
    · show some (h.1 5 5, h) = _
      rw [show h.1 5 5 = nI (N 39) from a 39 (by decide)]
    · show some (h.1 109 39, h) = _
      rw [b 39 (by decide)]
  have o10 : z1 < nI 10 ∨ nI 13 < z1 := outr (by decide) (fun j h1 h2 => by
    rcases (show j = 10 ∨ j = 11 ∨ j = 12 ∨ j = 13 by omega) with rfl | rfl | rfl | rfl
    · exact e10
    · exact e11
    · exact e12
    · exact e13)
  have p10 : z1 < 10 ∨ 14 ≤ z1 := by
    rcases o10 with q | q
    · exact Or.inl q
    · right
      by_cases z : z1 < 0
      · exact absurd (Int32.lt_trans q z) (by decide)
      · obtain ⟨j, hj, rfl⟩ := nI_of z
        rw [nI_ltI (by decide) hj] at q
        exact nI_le (a := 14) (by omega) hj
  have o20 : z1 < nI 20 ∨ nI 25 < z1 := outr (by decide) (fun j h1 h2 => by
    rcases (show j = 20 ∨ j = 21 ∨ j = 22 ∨ j = 23 ∨ j = 24 ∨ j = 25 by omega) with rfl | rfl | rfl | rfl | rfl | rfl
    · exact e20
    · exact e21
    · exact e22
    · exact e23
    · exact e24
    · exact e25)
  have p20 : z1 < 20 ∨ 26 ≤ z1 := by
    rcases o20 with q | q
    · exact Or.inl q
    · right
      by_cases z : z1 < 0
      · exact absurd (Int32.lt_trans q z) (by decide)
      · obtain ⟨j, hj, rfl⟩ := nI_of z
        rw [nI_ltI (by decide) hj] at q
        exact nI_le (a := 26) (by omega) hj
  have o30 : z1 < nI 30 ∨ nI 35 < z1 := outr (by decide) (fun j h1 h2 => by
    rcases (show j = 30 ∨ j = 31 ∨ j = 32 ∨ j = 33 ∨ j = 34 ∨ j = 35 by omega) with rfl | rfl | rfl | rfl | rfl | rfl
    · exact e30
    · exact e31
    · exact e32
    · exact e33
    · exact e34
    · exact e35)
  have p30 : z1 < 30 ∨ 36 ≤ z1 := by
    rcases o30 with q | q
    · exact Or.inl q
    · right
      by_cases z : z1 < 0
      · exact absurd (Int32.lt_trans q z) (by decide)
      · obtain ⟨j, hj, rfl⟩ := nI_of z
        rw [nI_ltI (by decide) hj] at q
        exact nI_le (a := 36) (by omega) hj
  refine same_op (r := -1) ⟨N, hR⟩ ?_ ?_
  · have q1 : f_X8_told 0 z1 h = f_X8_told_25 0 z1 h := by
      unfold f_X8_told
      by_cases z : z1 < 10
      · rw [if_pos z]
      · rw [if_neg z, if_pos (p10.resolve_left z)]
    have q2 : f_X8_told_25 0 z1 h = f_X8_told_50 0 z1 h := by
      unfold f_X8_told_25
      by_cases z : z1 < 20
      · rw [if_pos z]
      · rw [if_neg z, if_pos (p20.resolve_left z)]
    have q3 : f_X8_told_50 0 z1 h = f_X8_told_75 0 z1 h := by
      unfold f_X8_told_50
      by_cases z : z1 < 30
      · rw [if_pos z]
      · rw [if_neg z, if_pos (p30.resolve_left z)]
    show f_X8_told 0 z1 h = _
    rw [q1, q2, q3]
    unfold f_X8_told_75
    rw [if_neg e0, if_neg e1, if_neg e2, if_neg e3, if_neg e4, if_neg e5, if_neg e6, if_neg e7, if_neg e8, if_neg e9]
  · show f_X9_told 108 z1 h = _
    unfold f_X9_told
    simp only [w9o_10_13 h o10, w9o_20_25 h o20, w9o_30_35 h o30, Option.bind_some, if_true]
    rw [if_neg e0, if_neg e1, if_neg e2, if_neg e3, if_neg e4, if_neg e5, if_neg e6, if_neg e7, if_neg e8, if_neg e9]
end TOLD
