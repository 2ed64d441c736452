/-! the layout: which cell is of which kind (0..9 a class, 10 int[], 11 long[], 12 boolean[], 13 int[][]), how long; a field: 0 a number, 1 a long, n + 2 a reference to the cell n behind its object -/
abbrev Hp : Type := (Nat → Nat → Int32) × (Nat → Nat → Int64)
def kdL : List Nat := [8, 3, 10, 10, 10, 10, 3, 10, 10, 10, 10, 3, 10, 10, 10, 10, 1, 0, 10, 10, 11, 10, 11, 11, 11, 10, 10, 0, 10, 10, 11, 10, 11, 11, 11, 10, 1, 0, 10, 10, 11, 10, 11, 11, 11, 10, 10, 0, 10, 10, 11, 10, 11, 11, 11, 10, 2, 10, 4, 10, 10, 10, 10, 10, 10, 11, 11, 1, 0, 10, 10, 11, 10, 11, 11, 11, 10, 10, 0, 10, 10, 11, 10, 11, 11, 11, 10, 0, 10, 10, 11, 10, 11, 11, 11, 10, 7, 10, 5, 10, 6, 13, 10, 10, 10, 10, 10, 10, 9, 10, 10, 10, 10, 12, 10, 10, 10, 10, 11, 12, 12, 10, 10, 10, 10, 10, 10, 10, 10, 10, 10, 10, 10, 10, 10, 10, 10]
def lnL : List Nat := [0, 0, 24, 4, 6, 6, 0, 24, 4, 6, 6, 0, 24, 4, 6, 6, 0, 0, 6, 60, 6, 6, 6, 6, 6, 6, 6, 0, 6, 60, 6, 6, 6, 6, 6, 6, 0, 0, 6, 60, 6, 6, 6, 6, 6, 6, 6, 0, 6, 60, 6, 6, 6, 6, 6, 6, 0, 24, 0, 4, 4, 4, 4, 24, 24, 24, 24, 0, 0, 6, 60, 6, 6, 6, 6, 6, 6, 6, 0, 6, 60, 6, 6, 6, 6, 6, 6, 0, 6, 60, 6, 6, 6, 6, 6, 6, 0, 120, 0, 120, 0, 4, 40, 40, 40, 40, 4, 24, 0, 44, 44, 120, 24, 6, 6, 6, 6, 60, 6, 6, 6, 6, 6, 6, 6, 60, 6, 96, 4, 6, 6, 24, 4, 4, 160, 4, 24]
abbrev nC : Nat := 137
def kd (k : Nat) : Nat := kdL.getD k 99
def ln (k : Nat) : Nat := lnL.getD k 0
def fkL : List (List Nat) := [[3, 4, 0, 0, 0, 5, 6, 7, 8, 9, 10], [3, 12, 0, 13], [3, 4, 13, 33, 0, 0], [3, 4, 5, 6, 0, 0, 0, 0], [0, 0, 0, 3, 4, 5, 6, 7, 8, 9, 10, 1], [3, 0], [3, 8], [3, 0], [3, 8, 13, 18, 38, 58, 98, 100, 102, 109, 0], [3, 4, 0, 0, 0, 5, 0, 0, 6, 7, 8, 9, 10, 11, 0, 0, 12, 13, 14, 15, 16, 17, 18, 19, 0, 0, 20, 21, 0, 22, 23, 0, 0, 24, 25, 0, 26, 27, 0, 28, 29, 30]]
theorem kd_lt {a ci : Nat} (h : kd a = ci) (hc : ci ≠ 99 := by decide) : a < nC := by
  rcases Nat.lt_or_ge a nC with q | q
  · exact q
  · exfalso
    apply hc
    rw [← h]
    unfold kd
    have hl : kdL.length = nC := by decide +kernel
    rw [List.getD_eq_getElem?_getD, List.getElem?_eq_none (by rw [hl]; exact q)]
    rfl
theorem ly_of {P : Nat → Prop} {ci : Nat} (hall : ∀ a, a < nC → kd a = ci → P a) {a : Nat} (h : kd a = ci) (hc : ci ≠ 99 := by decide) : P a := hall a (kd_lt h hc) h
theorem lk_0_0 {a : Nat} (h : kd a = 0) : kd (a + 1) = 10 := ly_of (P := fun a => kd (a + 1) = 10) (by decide +kernel) h
theorem ll_0_0 {a : Nat} (h : kd a = 0) : ln (a + 1) = 6 := ly_of (P := fun a => ln (a + 1) = 6) (by decide +kernel) h
theorem lk_0_1 {a : Nat} (h : kd a = 0) : kd (a + 2) = 10 := ly_of (P := fun a => kd (a + 2) = 10) (by decide +kernel) h
theorem ll_0_1 {a : Nat} (h : kd a = 0) : ln (a + 2) = 60 := ly_of (P := fun a => ln (a + 2) = 60) (by decide +kernel) h
theorem lk_0_5 {a : Nat} (h : kd a = 0) : kd (a + 3) = 11 := ly_of (P := fun a => kd (a + 3) = 11) (by decide +kernel) h
theorem ll_0_5 {a : Nat} (h : kd a = 0) : ln (a + 3) = 6 := ly_of (P := fun a => ln (a + 3) = 6) (by decide +kernel) h
theorem lk_0_6 {a : Nat} (h : kd a = 0) : kd (a + 4) = 10 := ly_of (P := fun a => kd (a + 4) = 10) (by decide +kernel) h
theorem ll_0_6 {a : Nat} (h : kd a = 0) : ln (a + 4) = 6 := ly_of (P := fun a => ln (a + 4) = 6) (by decide +kernel) h
theorem lk_0_7 {a : Nat} (h : kd a = 0) : kd (a + 5) = 11 := ly_of (P := fun a => kd (a + 5) = 11) (by decide +kernel) h
theorem ll_0_7 {a : Nat} (h : kd a = 0) : ln (a + 5) = 6 := ly_of (P := fun a => ln (a + 5) = 6) (by decide +kernel) h
theorem lk_0_8 {a : Nat} (h : kd a = 0) : kd (a + 6) = 11 := ly_of (P := fun a => kd (a + 6) = 11) (by decide +kernel) h
theorem ll_0_8 {a : Nat} (h : kd a = 0) : ln (a + 6) = 6 := ly_of (P := fun a => ln (a + 6) = 6) (by decide +kernel) h
theorem lk_0_9 {a : Nat} (h : kd a = 0) : kd (a + 7) = 11 := ly_of (P := fun a => kd (a + 7) = 11) (by decide +kernel) h
theorem ll_0_9 {a : Nat} (h : kd a = 0) : ln (a + 7) = 6 := ly_of (P := fun a => ln (a + 7) = 6) (by decide +kernel) h
theorem lk_0_10 {a : Nat} (h : kd a = 0) : kd (a + 8) = 10 := ly_of (P := fun a => kd (a + 8) = 10) (by decide +kernel) h
theorem ll_0_10 {a : Nat} (h : kd a = 0) : ln (a + 8) = 6 := ly_of (P := fun a => ln (a + 8) = 6) (by decide +kernel) h
theorem lk_1_0 {a : Nat} (h : kd a = 1) : kd (a + 1) = 0 := ly_of (P := fun a => kd (a + 1) = 0) (by decide +kernel) h
theorem lk_1_1 {a : Nat} (h : kd a = 1) : kd (a + 10) = 10 := ly_of (P := fun a => kd (a + 10) = 10) (by decide +kernel) h
theorem ll_1_1 {a : Nat} (h : kd a = 1) : ln (a + 10) = 6 := ly_of (P := fun a => ln (a + 10) = 6) (by decide +kernel) h
theorem lk_1_3 {a : Nat} (h : kd a = 1) : kd (a + 11) = 0 := ly_of (P := fun a => kd (a + 11) = 0) (by decide +kernel) h
theorem lk_2_0 {a : Nat} (h : kd a = 2) : kd (a + 1) = 10 := ly_of (P := fun a => kd (a + 1) = 10) (by decide +kernel) h
theorem ll_2_0 {a : Nat} (h : kd a = 2) : ln (a + 1) = 24 := ly_of (P := fun a => ln (a + 1) = 24) (by decide +kernel) h
theorem lk_2_1 {a : Nat} (h : kd a = 2) : kd (a + 2) = 4 := ly_of (P := fun a => kd (a + 2) = 4) (by decide +kernel) h
theorem lk_2_2 {a : Nat} (h : kd a = 2) : kd (a + 11) = 1 := ly_of (P := fun a => kd (a + 11) = 1) (by decide +kernel) h
theorem lk_2_3 {a : Nat} (h : kd a = 2) : kd (a + 31) = 0 := ly_of (P := fun a => kd (a + 31) = 0) (by decide +kernel) h
theorem lk_3_0 {a : Nat} (h : kd a = 3) : kd (a + 1) = 10 := ly_of (P := fun a => kd (a + 1) = 10) (by decide +kernel) h
theorem ll_3_0 {a : Nat} (h : kd a = 3) : ln (a + 1) = 24 := ly_of (P := fun a => ln (a + 1) = 24) (by decide +kernel) h
theorem lk_3_1 {a : Nat} (h : kd a = 3) : kd (a + 2) = 10 := ly_of (P := fun a => kd (a + 2) = 10) (by decide +kernel) h
theorem ll_3_1 {a : Nat} (h : kd a = 3) : ln (a + 2) = 4 := ly_of (P := fun a => ln (a + 2) = 4) (by decide +kernel) h
theorem lk_3_2 {a : Nat} (h : kd a = 3) : kd (a + 3) = 10 := ly_of (P := fun a => kd (a + 3) = 10) (by decide +kernel) h
theorem ll_3_2 {a : Nat} (h : kd a = 3) : ln (a + 3) = 6 := ly_of (P := fun a => ln (a + 3) = 6) (by decide +kernel) h
theorem lk_3_3 {a : Nat} (h : kd a = 3) : kd (a + 4) = 10 := ly_of (P := fun a => kd (a + 4) = 10) (by decide +kernel) h
theorem ll_3_3 {a : Nat} (h : kd a = 3) : ln (a + 4) = 6 := ly_of (P := fun a => ln (a + 4) = 6) (by decide +kernel) h
theorem lk_4_3 {a : Nat} (h : kd a = 4) : kd (a + 1) = 10 := ly_of (P := fun a => kd (a + 1) = 10) (by decide +kernel) h
theorem ll_4_3 {a : Nat} (h : kd a = 4) : ln (a + 1) = 4 := ly_of (P := fun a => ln (a + 1) = 4) (by decide +kernel) h
theorem lk_4_4 {a : Nat} (h : kd a = 4) : kd (a + 2) = 10 := ly_of (P := fun a => kd (a + 2) = 10) (by decide +kernel) h
theorem ll_4_4 {a : Nat} (h : kd a = 4) : ln (a + 2) = 4 := ly_of (P := fun a => ln (a + 2) = 4) (by decide +kernel) h
theorem lk_4_5 {a : Nat} (h : kd a = 4) : kd (a + 3) = 10 := ly_of (P := fun a => kd (a + 3) = 10) (by decide +kernel) h
theorem ll_4_5 {a : Nat} (h : kd a = 4) : ln (a + 3) = 4 := ly_of (P := fun a => ln (a + 3) = 4) (by decide +kernel) h
theorem lk_4_6 {a : Nat} (h : kd a = 4) : kd (a + 4) = 10 := ly_of (P := fun a => kd (a + 4) = 10) (by decide +kernel) h
theorem ll_4_6 {a : Nat} (h : kd a = 4) : ln (a + 4) = 4 := ly_of (P := fun a => ln (a + 4) = 4) (by decide +kernel) h
theorem lk_4_7 {a : Nat} (h : kd a = 4) : kd (a + 5) = 10 := ly_of (P := fun a => kd (a + 5) = 10) (by decide +kernel) h
theorem ll_4_7 {a : Nat} (h : kd a = 4) : ln (a + 5) = 24 := ly_of (P := fun a => ln (a + 5) = 24) (by decide +kernel) h
theorem lk_4_8 {a : Nat} (h : kd a = 4) : kd (a + 6) = 10 := ly_of (P := fun a => kd (a + 6) = 10) (by decide +kernel) h
theorem ll_4_8 {a : Nat} (h : kd a = 4) : ln (a + 6) = 24 := ly_of (P := fun a => ln (a + 6) = 24) (by decide +kernel) h
theorem lk_4_9 {a : Nat} (h : kd a = 4) : kd (a + 7) = 11 := ly_of (P := fun a => kd (a + 7) = 11) (by decide +kernel) h
theorem ll_4_9 {a : Nat} (h : kd a = 4) : ln (a + 7) = 24 := ly_of (P := fun a => ln (a + 7) = 24) (by decide +kernel) h
theorem lk_4_10 {a : Nat} (h : kd a = 4) : kd (a + 8) = 11 := ly_of (P := fun a => kd (a + 8) = 11) (by decide +kernel) h
theorem ll_4_10 {a : Nat} (h : kd a = 4) : ln (a + 8) = 24 := ly_of (P := fun a => ln (a + 8) = 24) (by decide +kernel) h
theorem lk_5_0 {a : Nat} (h : kd a = 5) : kd (a + 1) = 10 := ly_of (P := fun a => kd (a + 1) = 10) (by decide +kernel) h
theorem ll_5_0 {a : Nat} (h : kd a = 5) : ln (a + 1) = 120 := ly_of (P := fun a => ln (a + 1) = 120) (by decide +kernel) h
theorem lk_6_0 {a : Nat} (h : kd a = 6) : kd (a + 1) = 13 := ly_of (P := fun a => kd (a + 1) = 13) (by decide +kernel) h
theorem ll_6_0 {a : Nat} (h : kd a = 6) : ln (a + 1) = 4 := ly_of (P := fun a => ln (a + 1) = 4) (by decide +kernel) h
theorem lk_6_1 {a : Nat} (h : kd a = 6) : kd (a + 6) = 10 := ly_of (P := fun a => kd (a + 6) = 10) (by decide +kernel) h
theorem ll_6_1 {a : Nat} (h : kd a = 6) : ln (a + 6) = 4 := ly_of (P := fun a => ln (a + 6) = 4) (by decide +kernel) h
theorem lk_7_0 {a : Nat} (h : kd a = 7) : kd (a + 1) = 10 := ly_of (P := fun a => kd (a + 1) = 10) (by decide +kernel) h
theorem ll_7_0 {a : Nat} (h : kd a = 7) : ln (a + 1) = 120 := ly_of (P := fun a => ln (a + 1) = 120) (by decide +kernel) h
theorem lk_8_0 {a : Nat} (h : kd a = 8) : kd (a + 1) = 3 := ly_of (P := fun a => kd (a + 1) = 3) (by decide +kernel) h
theorem lk_8_1 {a : Nat} (h : kd a = 8) : kd (a + 6) = 3 := ly_of (P := fun a => kd (a + 6) = 3) (by decide +kernel) h
theorem lk_8_2 {a : Nat} (h : kd a = 8) : kd (a + 11) = 3 := ly_of (P := fun a => kd (a + 11) = 3) (by decide +kernel) h
theorem lk_8_3 {a : Nat} (h : kd a = 8) : kd (a + 16) = 1 := ly_of (P := fun a => kd (a + 16) = 1) (by decide +kernel) h
theorem lk_8_4 {a : Nat} (h : kd a = 8) : kd (a + 36) = 1 := ly_of (P := fun a => kd (a + 36) = 1) (by decide +kernel) h
theorem lk_8_5 {a : Nat} (h : kd a = 8) : kd (a + 56) = 2 := ly_of (P := fun a => kd (a + 56) = 2) (by decide +kernel) h
theorem lk_8_6 {a : Nat} (h : kd a = 8) : kd (a + 96) = 7 := ly_of (P := fun a => kd (a + 96) = 7) (by decide +kernel) h
theorem lk_8_7 {a : Nat} (h : kd a = 8) : kd (a + 98) = 5 := ly_of (P := fun a => kd (a + 98) = 5) (by decide +kernel) h
theorem lk_8_8 {a : Nat} (h : kd a = 8) : kd (a + 100) = 6 := ly_of (P := fun a => kd (a + 100) = 6) (by decide +kernel) h
theorem lk_8_9 {a : Nat} (h : kd a = 8) : kd (a + 107) = 10 := ly_of (P := fun a => kd (a + 107) = 10) (by decide +kernel) h
theorem ll_8_9 {a : Nat} (h : kd a = 8) : ln (a + 107) = 24 := ly_of (P := fun a => ln (a + 107) = 24) (by decide +kernel) h
theorem lk_9_0 {a : Nat} (h : kd a = 9) : kd (a + 1) = 10 := ly_of (P := fun a => kd (a + 1) = 10) (by decide +kernel) h
theorem ll_9_0 {a : Nat} (h : kd a = 9) : ln (a + 1) = 44 := ly_of (P := fun a => ln (a + 1) = 44) (by decide +kernel) h
theorem lk_9_1 {a : Nat} (h : kd a = 9) : kd (a + 2) = 10 := ly_of (P := fun a => kd (a + 2) = 10) (by decide +kernel) h
theorem ll_9_1 {a : Nat} (h : kd a = 9) : ln (a + 2) = 44 := ly_of (P := fun a => ln (a + 2) = 44) (by decide +kernel) h
theorem lk_9_5 {a : Nat} (h : kd a = 9) : kd (a + 3) = 10 := ly_of (P := fun a => kd (a + 3) = 10) (by decide +kernel) h
theorem ll_9_5 {a : Nat} (h : kd a = 9) : ln (a + 3) = 120 := ly_of (P := fun a => ln (a + 3) = 120) (by decide +kernel) h
theorem lk_9_8 {a : Nat} (h : kd a = 9) : kd (a + 4) = 10 := ly_of (P := fun a => kd (a + 4) = 10) (by decide +kernel) h
theorem ll_9_8 {a : Nat} (h : kd a = 9) : ln (a + 4) = 24 := ly_of (P := fun a => ln (a + 4) = 24) (by decide +kernel) h
theorem lk_9_9 {a : Nat} (h : kd a = 9) : kd (a + 5) = 12 := ly_of (P := fun a => kd (a + 5) = 12) (by decide +kernel) h
theorem ll_9_9 {a : Nat} (h : kd a = 9) : ln (a + 5) = 6 := ly_of (P := fun a => ln (a + 5) = 6) (by decide +kernel) h
theorem lk_9_10 {a : Nat} (h : kd a = 9) : kd (a + 6) = 10 := ly_of (P := fun a => kd (a + 6) = 10) (by decide +kernel) h
theorem ll_9_10 {a : Nat} (h : kd a = 9) : ln (a + 6) = 6 := ly_of (P := fun a => ln (a + 6) = 6) (by decide +kernel) h
theorem lk_9_11 {a : Nat} (h : kd a = 9) : kd (a + 7) = 10 := ly_of (P := fun a => kd (a + 7) = 10) (by decide +kernel) h
theorem ll_9_11 {a : Nat} (h : kd a = 9) : ln (a + 7) = 6 := ly_of (P := fun a => ln (a + 7) = 6) (by decide +kernel) h
theorem lk_9_12 {a : Nat} (h : kd a = 9) : kd (a + 8) = 10 := ly_of (P := fun a => kd (a + 8) = 10) (by decide +kernel) h
theorem ll_9_12 {a : Nat} (h : kd a = 9) : ln (a + 8) = 6 := ly_of (P := fun a => ln (a + 8) = 6) (by decide +kernel) h
theorem lk_9_13 {a : Nat} (h : kd a = 9) : kd (a + 9) = 10 := ly_of (P := fun a => kd (a + 9) = 10) (by decide +kernel) h
theorem ll_9_13 {a : Nat} (h : kd a = 9) : ln (a + 9) = 60 := ly_of (P := fun a => ln (a + 9) = 60) (by decide +kernel) h
theorem lk_9_16 {a : Nat} (h : kd a = 9) : kd (a + 10) = 11 := ly_of (P := fun a => kd (a + 10) = 11) (by decide +kernel) h
theorem ll_9_16 {a : Nat} (h : kd a = 9) : ln (a + 10) = 6 := ly_of (P := fun a => ln (a + 10) = 6) (by decide +kernel) h
theorem lk_9_17 {a : Nat} (h : kd a = 9) : kd (a + 11) = 12 := ly_of (P := fun a => kd (a + 11) = 12) (by decide +kernel) h
theorem ll_9_17 {a : Nat} (h : kd a = 9) : ln (a + 11) = 6 := ly_of (P := fun a => ln (a + 11) = 6) (by decide +kernel) h
theorem lk_9_18 {a : Nat} (h : kd a = 9) : kd (a + 12) = 12 := ly_of (P := fun a => kd (a + 12) = 12) (by decide +kernel) h
theorem ll_9_18 {a : Nat} (h : kd a = 9) : ln (a + 12) = 6 := ly_of (P := fun a => ln (a + 12) = 6) (by decide +kernel) h
theorem lk_9_19 {a : Nat} (h : kd a = 9) : kd (a + 13) = 10 := ly_of (P := fun a => kd (a + 13) = 10) (by decide +kernel) h
theorem ll_9_19 {a : Nat} (h : kd a = 9) : ln (a + 13) = 6 := ly_of (P := fun a => ln (a + 13) = 6) (by decide +kernel) h
theorem lk_9_20 {a : Nat} (h : kd a = 9) : kd (a + 14) = 10 := ly_of (P := fun a => kd (a + 14) = 10) (by decide +kernel) h
theorem ll_9_20 {a : Nat} (h : kd a = 9) : ln (a + 14) = 6 := ly_of (P := fun a => ln (a + 14) = 6) (by decide +kernel) h
theorem lk_9_21 {a : Nat} (h : kd a = 9) : kd (a + 15) = 10 := ly_of (P := fun a => kd (a + 15) = 10) (by decide +kernel) h
theorem ll_9_21 {a : Nat} (h : kd a = 9) : ln (a + 15) = 6 := ly_of (P := fun a => ln (a + 15) = 6) (by decide +kernel) h
theorem lk_9_22 {a : Nat} (h : kd a = 9) : kd (a + 16) = 10 := ly_of (P := fun a => kd (a + 16) = 10) (by decide +kernel) h
theorem ll_9_22 {a : Nat} (h : kd a = 9) : ln (a + 16) = 6 := ly_of (P := fun a => ln (a + 16) = 6) (by decide +kernel) h
theorem lk_9_23 {a : Nat} (h : kd a = 9) : kd (a + 17) = 10 := ly_of (P := fun a => kd (a + 17) = 10) (by decide +kernel) h
theorem ll_9_23 {a : Nat} (h : kd a = 9) : ln (a + 17) = 60 := ly_of (P := fun a => ln (a + 17) = 60) (by decide +kernel) h
theorem lk_9_26 {a : Nat} (h : kd a = 9) : kd (a + 18) = 10 := ly_of (P := fun a => kd (a + 18) = 10) (by decide +kernel) h
theorem ll_9_26 {a : Nat} (h : kd a = 9) : ln (a + 18) = 6 := ly_of (P := fun a => ln (a + 18) = 6) (by decide +kernel) h
theorem lk_9_27 {a : Nat} (h : kd a = 9) : kd (a + 19) = 10 := ly_of (P := fun a => kd (a + 19) = 10) (by decide +kernel) h
theorem ll_9_27 {a : Nat} (h : kd a = 9) : ln (a + 19) = 96 := ly_of (P := fun a => ln (a + 19) = 96) (by decide +kernel) h
theorem lk_9_29 {a : Nat} (h : kd a = 9) : kd (a + 20) = 10 := ly_of (P := fun a => kd (a + 20) = 10) (by decide +kernel) h
theorem ll_9_29 {a : Nat} (h : kd a = 9) : ln (a + 20) = 4 := ly_of (P := fun a => ln (a + 20) = 4) (by decide +kernel) h
theorem lk_9_30 {a : Nat} (h : kd a = 9) : kd (a + 21) = 10 := ly_of (P := fun a => kd (a + 21) = 10) (by decide +kernel) h
theorem ll_9_30 {a : Nat} (h : kd a = 9) : ln (a + 21) = 6 := ly_of (P := fun a => ln (a + 21) = 6) (by decide +kernel) h
theorem lk_9_33 {a : Nat} (h : kd a = 9) : kd (a + 22) = 10 := ly_of (P := fun a => kd (a + 22) = 10) (by decide +kernel) h
theorem ll_9_33 {a : Nat} (h : kd a = 9) : ln (a + 22) = 6 := ly_of (P := fun a => ln (a + 22) = 6) (by decide +kernel) h
theorem lk_9_34 {a : Nat} (h : kd a = 9) : kd (a + 23) = 10 := ly_of (P := fun a => kd (a + 23) = 10) (by decide +kernel) h
theorem ll_9_34 {a : Nat} (h : kd a = 9) : ln (a + 23) = 24 := ly_of (P := fun a => ln (a + 23) = 24) (by decide +kernel) h
theorem lk_9_36 {a : Nat} (h : kd a = 9) : kd (a + 24) = 10 := ly_of (P := fun a => kd (a + 24) = 10) (by decide +kernel) h
theorem ll_9_36 {a : Nat} (h : kd a = 9) : ln (a + 24) = 4 := ly_of (P := fun a => ln (a + 24) = 4) (by decide +kernel) h
theorem lk_9_37 {a : Nat} (h : kd a = 9) : kd (a + 25) = 10 := ly_of (P := fun a => kd (a + 25) = 10) (by decide +kernel) h
theorem ll_9_37 {a : Nat} (h : kd a = 9) : ln (a + 25) = 4 := ly_of (P := fun a => ln (a + 25) = 4) (by decide +kernel) h
theorem lk_9_39 {a : Nat} (h : kd a = 9) : kd (a + 26) = 10 := ly_of (P := fun a => kd (a + 26) = 10) (by decide +kernel) h
theorem ll_9_39 {a : Nat} (h : kd a = 9) : ln (a + 26) = 160 := ly_of (P := fun a => ln (a + 26) = 160) (by decide +kernel) h
theorem lk_9_40 {a : Nat} (h : kd a = 9) : kd (a + 27) = 10 := ly_of (P := fun a => kd (a + 27) = 10) (by decide +kernel) h
theorem ll_9_40 {a : Nat} (h : kd a = 9) : ln (a + 27) = 4 := ly_of (P := fun a => ln (a + 27) = 4) (by decide +kernel) h
theorem lk_9_41 {a : Nat} (h : kd a = 9) : kd (a + 28) = 10 := ly_of (P := fun a => kd (a + 28) = 10) (by decide +kernel) h
theorem ll_9_41 {a : Nat} (h : kd a = 9) : ln (a + 28) = 24 := ly_of (P := fun a => ln (a + 28) = 24) (by decide +kernel) h
theorem lk_row {a : Nat} (h : kd a = 13) {i : Nat} (hi : i < 4) : kd (a + 1 + i) = 10 ∧ ln (a + 1 + i) = 40 := (ly_of (P := fun a => ∀ i, i < 4 → kd (a + 1 + i) = 10 ∧ ln (a + 1 + i) = 40) (by decide +kernel) h) i hi
theorem ll_13 {a : Nat} (h : kd a = 13) : ln a = 4 := ly_of (P := fun a => ln a = 4) (by decide +kernel) h
