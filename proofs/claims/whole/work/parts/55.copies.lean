theorem cpyz {f g : Nat → Int32} {n j : Nat} {x : Int32} (hx : x.toNatClampNeg = n) (h : j < n) : va_cpy f g (Int32.toNatClampNeg 0) (Int32.toNatClampNeg 0) x.toNatClampNeg j = f j := by
  rw [hx]
  exact sb_cpy0 h
theorem cl24 : Int32.toNatClampNeg 24 = 24 := by decide
theorem cl4 : Int32.toNatClampNeg 4 = 4 := by decide
theorem cl6 : Int32.toNatClampNeg 6 = 6 := by decide
theorem cl44 : Int32.toNatClampNeg 44 = 44 := by decide
def cp_6_1 (h : Hp) : Hp := sI (sI (sI (sI (rI (rI (rI (rI h 7 (va_cpy (h.1 2) (h.1 7) (Int32.toNatClampNeg 0) (Int32.toNatClampNeg 0) (Int32.toNatClampNeg 24))) 8 (va_cpy (h.1 3) (h.1 8) (Int32.toNatClampNeg 0) (Int32.toNatClampNeg 0) (Int32.toNatClampNeg 4))) 9 (va_cpy (h.1 4) (h.1 9) (Int32.toNatClampNeg 0) (Int32.toNatClampNeg 0) (Int32.toNatClampNeg 6))) 10 (va_cpy (h.1 5) (h.1 10) (Int32.toNatClampNeg 0) (Int32.toNatClampNeg 0) (Int32.toNatClampNeg 6))) 6 4 (h.1 1 4)) 6 5 (h.1 1 5)) 6 6 (h.1 1 6)) 6 7 (h.1 1 7)
theorem copy_6_1_eq (h : Hp) : f_X3_copyFrom 6 1 h = some ((), cp_6_1 h) := by
  unfold f_X3_copyFrom cp_6_1
  simp [lt, sI_r, rI_r]
theorem copy_6_1 {h : Hp} {N : Nat → Nat} (a : Pc h 1 N) : Pc (cp_6_1 h) 6 N := by
  intro k hk
  have e := a k hk
  unfold lc at e ⊢
  unfold cp_6_1
  by_cases h1 : k < 24
  · rw [if_pos h1] at e ⊢
    simp [sI_r, rI_r]
    rw [sb_cpy0 (n := 24) (j := k) h1]
    exact e
  · rw [if_neg h1] at e ⊢
    by_cases h2 : k < 28
    · rw [if_pos h2] at e ⊢
      simp [sI_r, rI_r]
      rw [sb_cpy0 (n := 4) (j := k - 24) (by omega)]
      exact e
    · rw [if_neg h2] at e ⊢
      by_cases h3 : k < 34
      · rw [if_pos h3] at e ⊢
        simp [sI_r, rI_r]
        rw [sb_cpy0 (n := 6) (j := k - 28) (by omega)]
        exact e
      · rw [if_neg h3] at e ⊢
        by_cases h4 : k < 40
        · rw [if_pos h4] at e ⊢
          simp [sI_r, rI_r]
          rw [sb_cpy0 (n := 6) (j := k - 34) (by omega)]
          exact e
        · rw [if_neg h4] at e ⊢
          rcases (show k = 40 ∨ k = 41 ∨ k = 42 ∨ k = 43 by omega) with rfl | rfl | rfl | rfl
          · simp [sI1]
            exact e
          · simp [sI1]
            exact e
          · simp [sI1]
            exact e
          · simp [sI1]
            exact e
theorem copy_6_1_fr (h : Hp) : Fc 6 11 [] h (cp_6_1 h) := mf_X3_copyFrom (copy_6_1_eq h)
def cp_1_6 (h : Hp) : Hp := sI (sI (sI (sI (rI (rI (rI (rI h 2 (va_cpy (h.1 7) (h.1 2) (Int32.toNatClampNeg 0) (Int32.toNatClampNeg 0) (Int32.toNatClampNeg 24))) 3 (va_cpy (h.1 8) (h.1 3) (Int32.toNatClampNeg 0) (Int32.toNatClampNeg 0) (Int32.toNatClampNeg 4))) 4 (va_cpy (h.1 9) (h.1 4) (Int32.toNatClampNeg 0) (Int32.toNatClampNeg 0) (Int32.toNatClampNeg 6))) 5 (va_cpy (h.1 10) (h.1 5) (Int32.toNatClampNeg 0) (Int32.toNatClampNeg 0) (Int32.toNatClampNeg 6))) 1 4 (h.1 6 4)) 1 5 (h.1 6 5)) 1 6 (h.1 6 6)) 1 7 (h.1 6 7)
theorem copy_1_6_eq (h : Hp) : f_X3_copyFrom 1 6 h = some ((), cp_1_6 h) := by
  unfold f_X3_copyFrom cp_1_6
  simp [lt, sI_r, rI_r]
theorem copy_1_6 {h : Hp} {N : Nat → Nat} (a : Pc h 6 N) : Pc (cp_1_6 h) 1 N := by
  intro k hk
  have e := a k hk
  unfold lc at e ⊢
  unfold cp_1_6
  by_cases h1 : k < 24
  · rw [if_pos h1] at e ⊢
    simp [sI_r, rI_r]
    rw [sb_cpy0 (n := 24) (j := k) h1]
    exact e
  · rw [if_neg h1] at e ⊢
    by_cases h2 : k < 28
    · rw [if_pos h2] at e ⊢
      simp [sI_r, rI_r]
      rw [sb_cpy0 (n := 4) (j := k - 24) (by omega)]
      exact e
    · rw [if_neg h2] at e ⊢
      by_cases h3 : k < 34
      · rw [if_pos h3] at e ⊢
        simp [sI_r, rI_r]
        rw [sb_cpy0 (n := 6) (j := k - 28) (by omega)]
        exact e
      · rw [if_neg h3] at e ⊢
        by_cases h4 : k < 40
        · rw [if_pos h4] at e ⊢
          simp [sI_r, rI_r]
          rw [sb_cpy0 (n := 6) (j := k - 34) (by omega)]
          exact e
        · rw [if_neg h4] at e ⊢
          rcases (show k = 40 ∨ k = 41 ∨ k = 42 ∨ k = 43 by omega) with rfl | rfl | rfl | rfl
          · simp [sI1]
            exact e
          · simp [sI1]
            exact e
          · simp [sI1]
            exact e
          · simp [sI1]
            exact e
theorem copy_1_6_fr (h : Hp) : Fc 1 6 [] h (cp_1_6 h) := mf_X3_copyFrom (copy_1_6_eq h)
def cp_11_1 (h : Hp) : Hp := sI (sI (sI (sI (rI (rI (rI (rI h 12 (va_cpy (h.1 2) (h.1 12) (Int32.toNatClampNeg 0) (Int32.toNatClampNeg 0) (Int32.toNatClampNeg 24))) 13 (va_cpy (h.1 3) (h.1 13) (Int32.toNatClampNeg 0) (Int32.toNatClampNeg 0) (Int32.toNatClampNeg 4))) 14 (va_cpy (h.1 4) (h.1 14) (Int32.toNatClampNeg 0) (Int32.toNatClampNeg 0) (Int32.toNatClampNeg 6))) 15 (va_cpy (h.1 5) (h.1 15) (Int32.toNatClampNeg 0) (Int32.toNatClampNeg 0) (Int32.toNatClampNeg 6))) 11 4 (h.1 1 4)) 11 5 (h.1 1 5)) 11 6 (h.1 1 6)) 11 7 (h.1 1 7)
theorem copy_11_1_eq (h : Hp) : f_X3_copyFrom 11 1 h = some ((), cp_11_1 h) := by
  unfold f_X3_copyFrom cp_11_1
  simp [lt, sI_r, rI_r]
theorem copy_11_1 {h : Hp} {N : Nat → Nat} (a : Pc h 1 N) : Pc (cp_11_1 h) 11 N := by
  intro k hk
  have e := a k hk
  unfold lc at e ⊢
  unfold cp_11_1
  by_cases h1 : k < 24
  · rw [if_pos h1] at e ⊢
    simp [sI_r, rI_r]
    rw [sb_cpy0 (n := 24) (j := k) h1]
    exact e
  · rw [if_neg h1] at e ⊢
    by_cases h2 : k < 28
    · rw [if_pos h2] at e ⊢
      simp [sI_r, rI_r]
      rw [sb_cpy0 (n := 4) (j := k - 24) (by omega)]
      exact e
    · rw [if_neg h2] at e ⊢
      by_cases h3 : k < 34
      · rw [if_pos h3] at e ⊢
        simp [sI_r, rI_r]
        rw [sb_cpy0 (n := 6) (j := k - 28) (by omega)]
        exact e
      · rw [if_neg h3] at e ⊢
        by_cases h4 : k < 40
        · rw [if_pos h4] at e ⊢
          simp [sI_r, rI_r]
          rw [sb_cpy0 (n := 6) (j := k - 34) (by omega)]
          exact e
        · rw [if_neg h4] at e ⊢
          rcases (show k = 40 ∨ k = 41 ∨ k = 42 ∨ k = 43 by omega) with rfl | rfl | rfl | rfl
          · simp [sI1]
            exact e
          · simp [sI1]
            exact e
          · simp [sI1]
            exact e
          · simp [sI1]
            exact e
theorem copy_11_1_fr (h : Hp) : Fc 11 16 [] h (cp_11_1 h) := mf_X3_copyFrom (copy_11_1_eq h)
def cp_1_11 (h : Hp) : Hp := sI (sI (sI (sI (rI (rI (rI (rI h 2 (va_cpy (h.1 12) (h.1 2) (Int32.toNatClampNeg 0) (Int32.toNatClampNeg 0) (Int32.toNatClampNeg 24))) 3 (va_cpy (h.1 13) (h.1 3) (Int32.toNatClampNeg 0) (Int32.toNatClampNeg 0) (Int32.toNatClampNeg 4))) 4 (va_cpy (h.1 14) (h.1 4) (Int32.toNatClampNeg 0) (Int32.toNatClampNeg 0) (Int32.toNatClampNeg 6))) 5 (va_cpy (h.1 15) (h.1 5) (Int32.toNatClampNeg 0) (Int32.toNatClampNeg 0) (Int32.toNatClampNeg 6))) 1 4 (h.1 11 4)) 1 5 (h.1 11 5)) 1 6 (h.1 11 6)) 1 7 (h.1 11 7)
theorem copy_1_11_eq (h : Hp) : f_X3_copyFrom 1 11 h = some ((), cp_1_11 h) := by
  unfold f_X3_copyFrom cp_1_11
  simp [lt, sI_r, rI_r]
theorem copy_1_11 {h : Hp} {N : Nat → Nat} (a : Pc h 11 N) : Pc (cp_1_11 h) 1 N := by
  intro k hk
  have e := a k hk
  unfold lc at e ⊢
  unfold cp_1_11
  by_cases h1 : k < 24
  · rw [if_pos h1] at e ⊢
    simp [sI_r, rI_r]
    rw [sb_cpy0 (n := 24) (j := k) h1]
    exact e
  · rw [if_neg h1] at e ⊢
    by_cases h2 : k < 28
    · rw [if_pos h2] at e ⊢
      simp [sI_r, rI_r]
      rw [sb_cpy0 (n := 4) (j := k - 24) (by omega)]
      exact e
    · rw [if_neg h2] at e ⊢
      by_cases h3 : k < 34
      · rw [if_pos h3] at e ⊢
        simp [sI_r, rI_r]
        rw [sb_cpy0 (n := 6) (j := k - 28) (by omega)]
        exact e
      · rw [if_neg h3] at e ⊢
        by_cases h4 : k < 40
        · rw [if_pos h4] at e ⊢
          simp [sI_r, rI_r]
          rw [sb_cpy0 (n := 6) (j := k - 34) (by omega)]
          exact e
        · rw [if_neg h4] at e ⊢
          rcases (show k = 40 ∨ k = 41 ∨ k = 42 ∨ k = 43 by omega) with rfl | rfl | rfl | rfl
          · simp [sI1]
            exact e
          · simp [sI1]
            exact e
          · simp [sI1]
            exact e
          · simp [sI1]
            exact e
theorem copy_1_11_fr (h : Hp) : Fc 1 6 [] h (cp_1_11 h) := mf_X3_copyFrom (copy_1_11_eq h)
theorem Chg.ofFc {lo hi : Nat} {R S : List Nat} {h h' : Hp} (a : Fc lo hi [] h h') (h1 : ∀ k, k ∉ R → k < lo ∨ hi ≤ k) (h8 : 108 < lo ∨ hi ≤ 108) : Chg R S h h' := ⟨fun k x _ => (a k (h1 k x) (by simp)).1, fun i _ => by rw [(a 108 h8 (by simp)).1]⟩
theorem Chg.trans {R S : List Nat} {h h1 h2 : Hp} (a : Chg R S h h1) (b : Chg R S h1 h2) : Chg R S h h2 := ⟨fun k x y => (b.1 k x y).trans (a.1 k x y), fun i x => (b.2 i x).trans (a.2 i x)⟩
theorem in5 {k lo : Nat} {R : List Nat} (hR : ∀ j, j < 5 → lo + j ∈ R) (h : k ∉ R) : k < lo ∨ lo + 5 ≤ k := by
  by_cases h1 : k < lo
  · exact Or.inl h1
  · by_cases h2 : lo + 5 ≤ k
    · exact Or.inr h2
    · exfalso
      apply h
      have := hR (k - lo) (by omega)
      rwa [show lo + (k - lo) = k by omega] at this
section CPY
variable {PK : (Nat → Nat) → Hp → Prop}
theorem op_image (hPK : PKok PK) : Op (Rel PK) (fun h => f_X8_image 0 h) (fun h => f_X9_image 108 h) := by
  intro h ⟨N, a1, a2, a3, a4, a5, a6, a7, a8⟩
  have c1 : Chg [0, 6, 7, 8, 9, 10, 110] [2] h (cp_6_1 h) := Chg.ofFc (copy_6_1_fr h) (fun k hk => in5 (lo := 6) (by decide) hk) (by decide)
  have c2 : Chg [0, 6, 7, 8, 9, 10, 110] [2] h (sI (cp_6_1 h) 0 10 1) := c1.s1 (by decide)
  have c3 : Chg [0, 6, 7, 8, 9, 10, 110] [2] h (sI (rI (sI (cp_6_1 h) 0 10 1) 110 (va_cpy ((sI (cp_6_1 h) 0 10 1).1 109) ((sI (cp_6_1 h) 0 10 1).1 110) (Int32.toNatClampNeg 0) (Int32.toNatClampNeg 0) (Int32.toNatClampNeg 44))) 108 2 1) := (c2.r1 (by decide)).f1 (by decide)
  have p2 : Pc (sI (cp_6_1 h) 0 10 1) 1 N := c2.pc a2 (by decide)
  have p3 := c3.po a3 (by decide)
  refine ⟨nI (allV N), sI (cp_6_1 h) 0 10 1, _, ?_, ?_, ⟨N, a1, c3.pc a2 (by decide), p3, ⟨?_, Or.inr ⟨?_, N, a1, ?_, ?_⟩⟩, c3.rt a5 (by decide) (by decide), c3.rs a6 (by decide) (by decide), c3.rr a7 (by decide), c3.rpl hPK a8 (by decide) (by decide)⟩⟩
  · show f_X8_image 0 h = _
    unfold f_X8_image
    rw [show (0 + 6 : Nat) = 6 from rfl, show (0 + 1 : Nat) = 1 from rfl, copy_6_1_eq, Option.bind_some]
    show (f_X3_sumOfAll 1 (sI (cp_6_1 h) 0 10 1)).bind _ = _
    rw [all8 p2]
    rfl
  · show f_X9_image 108 _ = _
    unfold f_X9_image
    show (f_X9_all 108 (sI (rI (sI (cp_6_1 h) 0 10 1) 110 (va_cpy ((sI (cp_6_1 h) 0 10 1).1 109) ((sI (cp_6_1 h) 0 10 1).1 110) (Int32.toNatClampNeg 0) (Int32.toNatClampNeg 0) (Int32.toNatClampNeg 44))) 108 2 1)).bind _ = _
    rw [all9 p3]
    rfl
  · simp [sI1, rI_r]
  · rw [sI1, if_pos rfl, if_pos rfl]
  · exact (copy_6_1 a2).keep (fun j hj => by
      have q : (6 + j) ≠ 108 ∧ (6 + j) ≠ 110 ∧ (6 + j) ≠ 0 := by omega
      rw [sI_row _ _ _ q.1, rI_ne _ _ q.2.1, sI_row _ _ _ q.2.2])
  · intro k hk
    rw [sI_row _ _ _ (by decide), rI_self, cpyz cl44 hk, c2.1 109 (by decide) (by decide)]
    exact a3 k hk
theorem op_undo : Op (Rel PK) (fun h => f_X8_undo 0 h) (fun h => f_X9_undo 108 h) := by
  intro h ⟨N, hR⟩
  obtain ⟨a1, a2, a3, a4, a5, a6, a7, a8⟩ := id hR
  obtain ⟨b1, b2⟩ := id a4
  rcases b2 with b2 | ⟨b2, M, m1, m2, m3⟩
  · refine same_op (r := -3) ⟨N, hR⟩ ?_ ?_
    · unfold f_X8_undo
      rw [if_pos (b1.trans b2)]
    · unfold f_X9_undo
      rw [if_pos b2]
  · have c1 : Chg [1, 2, 3, 4, 5, 56, 109] [3] h (cp_1_6 h) := Chg.ofFc (copy_1_6_fr h) (fun k hk => in5 (lo := 1) (by decide) hk) (by decide)
    have c2 : Chg [1, 2, 3, 4, 5, 56, 109] [3] h (sI (cp_1_6 h) 56 4 1) := c1.s1 (by decide)
    have c3 : Chg [1, 2, 3, 4, 5, 56, 109] [3] h (sI (rI (sI (cp_1_6 h) 56 4 1) 109 (va_cpy ((sI (cp_1_6 h) 56 4 1).1 110) ((sI (cp_1_6 h) 56 4 1).1 109) (Int32.toNatClampNeg 0) (Int32.toNatClampNeg 0) (Int32.toNatClampNeg 44))) 108 3 0) := (c2.r1 (by decide)).f1 (by decide)
    have p2 : Pc (sI (cp_1_6 h) 56 4 1) 1 M := (copy_1_6 m2).keep (fun j hj => by rw [sI_row _ _ _ (by omega)])
    have p3 : Po (sI (rI (sI (cp_1_6 h) 56 4 1) 109 (va_cpy ((sI (cp_1_6 h) 56 4 1).1 110) ((sI (cp_1_6 h) 56 4 1).1 109) (Int32.toNatClampNeg 0) (Int32.toNatClampNeg 0) (Int32.toNatClampNeg 44))) 108 3 0) 109 M := fun k hk => by
      rw [sI_row _ _ _ (by decide), rI_self, cpyz cl44 hk, c2.1 110 (by decide) (by decide)]
      exact m3 k hk
    refine ⟨nI (allV M), sI (cp_1_6 h) 56 4 1, _, ?_, ?_, ⟨M, m1, p2.keep (fun j hj => ?_), p3, c3.ri a4 (by decide) (by decide), c3.rt a5 (by decide) (by decide), c3.rs a6 (by decide) (by decide), c3.rr a7 (by decide), Or.inl ⟨?_, ?_⟩⟩⟩
    · show f_X8_undo 0 h = _
      unfold f_X8_undo
      rw [if_neg (by rw [b1, b2]; decide), show (0 + 6 : Nat) = 6 from rfl, show (0 + 1 : Nat) = 1 from rfl, copy_1_6_eq, Option.bind_some]
      show (f_X3_sumOfAll 1 (sI (cp_1_6 h) 56 4 1)).bind _ = _
      rw [all8 p2]
      rfl
    · show f_X9_undo 108 _ = _
      unfold f_X9_undo
      rw [if_neg (by rw [c2.2 2 (by decide), b2]; decide)]
      show (f_X9_all 108 (sI (rI (sI (cp_1_6 h) 56 4 1) 109 (va_cpy ((sI (cp_1_6 h) 56 4 1).1 110) ((sI (cp_1_6 h) 56 4 1).1 109) (Int32.toNatClampNeg 0) (Int32.toNatClampNeg 0) (Int32.toNatClampNeg 44))) 108 3 0)).bind _ = _
      rw [all9 p3]
      rfl
    · have q : (1 + j) ≠ 108 ∧ (1 + j) ≠ 109 := by omega
      rw [sI_row _ _ _ q.1, rI_ne _ _ q.2]
    · rw [sI_row _ _ _ (by decide), rI_ne _ _ (by decide), sI1, if_pos rfl, if_pos rfl]
    · rw [sI1, if_pos rfl, if_pos rfl]
end CPY
