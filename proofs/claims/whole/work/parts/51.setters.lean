theorem w8i_1 {j : Nat} (h : Hp) (hj : j ≤ 1) : f_X8_within (nI j) 1 h = some (1, h) := w8_in h hj (by decide)
theorem w8o_1 {x : Int32} (h : Hp) (o : x < 0 ∨ nI 1 < x) : f_X8_within x 1 h = some (0, h) := w8_out h o
theorem w8i_3 {j : Nat} (h : Hp) (hj : j ≤ 3) : f_X8_within (nI j) 3 h = some (1, h) := w8_in h hj (by decide)
theorem w8o_3 {x : Int32} (h : Hp) (o : x < 0 ∨ nI 3 < x) : f_X8_within x 3 h = some (0, h) := w8_out h o
theorem w8i_5 {j : Nat} (h : Hp) (hj : j ≤ 5) : f_X8_within (nI j) 5 h = some (1, h) := w8_in h hj (by decide)
theorem w8o_5 {x : Int32} (h : Hp) (o : x < 0 ∨ nI 5 < x) : f_X8_within x 5 h = some (0, h) := w8_out h o
theorem w8i_6 {j : Nat} (h : Hp) (hj : j ≤ 6) : f_X8_within (nI j) 6 h = some (1, h) := w8_in h hj (by decide)
theorem w8o_6 {x : Int32} (h : Hp) (o : x < 0 ∨ nI 6 < x) : f_X8_within x 6 h = some (0, h) := w8_out h o
theorem w8i_8 {j : Nat} (h : Hp) (hj : j ≤ 8) : f_X8_within (nI j) 8 h = some (1, h) := w8_in h hj (by decide)
theorem w8o_8 {x : Int32} (h : Hp) (o : x < 0 ∨ nI 8 < x) : f_X8_within x 8 h = some (0, h) := w8_out h o
theorem w8i_9 {j : Nat} (h : Hp) (hj : j ≤ 9) : f_X8_within (nI j) 9 h = some (1, h) := w8_in h hj (by decide)
theorem w8o_9 {x : Int32} (h : Hp) (o : x < 0 ∨ nI 9 < x) : f_X8_within x 9 h = some (0, h) := w8_out h o
theorem w8i_30 {j : Nat} (h : Hp) (hj : j ≤ 30) : f_X8_within (nI j) 30 h = some (1, h) := w8_in h hj (by decide)
theorem w8o_30 {x : Int32} (h : Hp) (o : x < 0 ∨ nI 30 < x) : f_X8_within x 30 h = some (0, h) := w8_out h o
theorem w8i_60 {j : Nat} (h : Hp) (hj : j ≤ 60) : f_X8_within (nI j) 60 h = some (1, h) := w8_in h hj (by decide)
theorem w8o_60 {x : Int32} (h : Hp) (o : x < 0 ∨ nI 60 < x) : f_X8_within x 60 h = some (0, h) := w8_out h o
theorem w8i_99 {j : Nat} (h : Hp) (hj : j ≤ 99) : f_X8_within (nI j) 99 h = some (1, h) := w8_in h hj (by decide)
theorem w8o_99 {x : Int32} (h : Hp) (o : x < 0 ∨ nI 99 < x) : f_X8_within x 99 h = some (0, h) := w8_out h o
theorem w8i_500 {j : Nat} (h : Hp) (hj : j ≤ 500) : f_X8_within (nI j) 500 h = some (1, h) := w8_in h hj (by decide)
theorem w8o_500 {x : Int32} (h : Hp) (o : x < 0 ∨ nI 500 < x) : f_X8_within x 500 h = some (0, h) := w8_out h o
theorem w8i_100000 {j : Nat} (h : Hp) (hj : j ≤ 100000) : f_X8_within (nI j) 100000 h = some (1, h) := w8_in h hj (by decide)
theorem w8o_100000 {x : Int32} (h : Hp) (o : x < 0 ∨ nI 100000 < x) : f_X8_within x 100000 h = some (0, h) := w8_out h o
theorem w9i_0_3 {j : Nat} (h : Hp) (h0 : 0 ≤ j) (hj : j ≤ 3) : f_X9_within (Int32.toInt64 (nI j)) 0 3 h = some (1, h) := w9_in h h0 hj (by decide)
theorem w9o_0_3 {x : Int32} (h : Hp) (o : x < nI 0 ∨ nI 3 < x) : f_X9_within (Int32.toInt64 x) 0 3 h = some (0, h) := w9_out h (by decide) (by decide) o
theorem w9i_0_5 {j : Nat} (h : Hp) (h0 : 0 ≤ j) (hj : j ≤ 5) : f_X9_within (Int32.toInt64 (nI j)) 0 5 h = some (1, h) := w9_in h h0 hj (by decide)
theorem w9o_0_5 {x : Int32} (h : Hp) (o : x < nI 0 ∨ nI 5 < x) : f_X9_within (Int32.toInt64 x) 0 5 h = some (0, h) := w9_out h (by decide) (by decide) o
theorem w9i_0_6 {j : Nat} (h : Hp) (h0 : 0 ≤ j) (hj : j ≤ 6) : f_X9_within (Int32.toInt64 (nI j)) 0 6 h = some (1, h) := w9_in h h0 hj (by decide)
theorem w9o_0_6 {x : Int32} (h : Hp) (o : x < nI 0 ∨ nI 6 < x) : f_X9_within (Int32.toInt64 x) 0 6 h = some (0, h) := w9_out h (by decide) (by decide) o
theorem w9i_0_8 {j : Nat} (h : Hp) (h0 : 0 ≤ j) (hj : j ≤ 8) : f_X9_within (Int32.toInt64 (nI j)) 0 8 h = some (1, h) := w9_in h h0 hj (by decide)
theorem w9o_0_8 {x : Int32} (h : Hp) (o : x < nI 0 ∨ nI 8 < x) : f_X9_within (Int32.toInt64 x) 0 8 h = some (0, h) := w9_out h (by decide) (by decide) o
theorem w9i_0_9 {j : Nat} (h : Hp) (h0 : 0 ≤ j) (hj : j ≤ 9) : f_X9_within (Int32.toInt64 (nI j)) 0 9 h = some (1, h) := w9_in h h0 hj (by decide)
theorem w9o_0_9 {x : Int32} (h : Hp) (o : x < nI 0 ∨ nI 9 < x) : f_X9_within (Int32.toInt64 x) 0 9 h = some (0, h) := w9_out h (by decide) (by decide) o
theorem w9i_0_30 {j : Nat} (h : Hp) (h0 : 0 ≤ j) (hj : j ≤ 30) : f_X9_within (Int32.toInt64 (nI j)) 0 30 h = some (1, h) := w9_in h h0 hj (by decide)
theorem w9o_0_30 {x : Int32} (h : Hp) (o : x < nI 0 ∨ nI 30 < x) : f_X9_within (Int32.toInt64 x) 0 30 h = some (0, h) := w9_out h (by decide) (by decide) o
theorem w9i_0_60 {j : Nat} (h : Hp) (h0 : 0 ≤ j) (hj : j ≤ 60) : f_X9_within (Int32.toInt64 (nI j)) 0 60 h = some (1, h) := w9_in h h0 hj (by decide)
theorem w9o_0_60 {x : Int32} (h : Hp) (o : x < nI 0 ∨ nI 60 < x) : f_X9_within (Int32.toInt64 x) 0 60 h = some (0, h) := w9_out h (by decide) (by decide) o
theorem w9i_0_99 {j : Nat} (h : Hp) (h0 : 0 ≤ j) (hj : j ≤ 99) : f_X9_within (Int32.toInt64 (nI j)) 0 99 h = some (1, h) := w9_in h h0 hj (by decide)
theorem w9o_0_99 {x : Int32} (h : Hp) (o : x < nI 0 ∨ nI 99 < x) : f_X9_within (Int32.toInt64 x) 0 99 h = some (0, h) := w9_out h (by decide) (by decide) o
theorem w9i_0_500 {j : Nat} (h : Hp) (h0 : 0 ≤ j) (hj : j ≤ 500) : f_X9_within (Int32.toInt64 (nI j)) 0 500 h = some (1, h) := w9_in h h0 hj (by decide)
theorem w9o_0_500 {x : Int32} (h : Hp) (o : x < nI 0 ∨ nI 500 < x) : f_X9_within (Int32.toInt64 x) 0 500 h = some (0, h) := w9_out h (by decide) (by decide) o
theorem w9i_0_100000 {j : Nat} (h : Hp) (h0 : 0 ≤ j) (hj : j ≤ 100000) : f_X9_within (Int32.toInt64 (nI j)) 0 100000 h = some (1, h) := w9_in h h0 hj (by decide)
theorem w9o_0_100000 {x : Int32} (h : Hp) (o : x < nI 0 ∨ nI 100000 < x) : f_X9_within (Int32.toInt64 x) 0 100000 h = some (0, h) := w9_out h (by decide) (by decide) o
theorem w9i_1_60 {j : Nat} (h : Hp) (h0 : 1 ≤ j) (hj : j ≤ 60) : f_X9_within (Int32.toInt64 (nI j)) 1 60 h = some (1, h) := w9_in h h0 hj (by decide)
theorem w9o_1_60 {x : Int32} (h : Hp) (o : x < nI 1 ∨ nI 60 < x) : f_X9_within (Int32.toInt64 x) 1 60 h = some (0, h) := w9_out h (by decide) (by decide) o
theorem w9i_1_99 {j : Nat} (h : Hp) (h0 : 1 ≤ j) (hj : j ≤ 99) : f_X9_within (Int32.toInt64 (nI j)) 1 99 h = some (1, h) := w9_in h h0 hj (by decide)
theorem w9o_1_99 {x : Int32} (h : Hp) (o : x < nI 1 ∨ nI 99 < x) : f_X9_within (Int32.toInt64 x) 1 99 h = some (0, h) := w9_out h (by decide) (by decide) o
theorem w9i_1_127 {j : Nat} (h : Hp) (h0 : 1 ≤ j) (hj : j ≤ 127) : f_X9_within (Int32.toInt64 (nI j)) 1 127 h = some (1, h) := w9_in h h0 hj (by decide)
theorem w9o_1_127 {x : Int32} (h : Hp) (o : x < nI 1 ∨ nI 127 < x) : f_X9_within (Int32.toInt64 x) 1 127 h = some (0, h) := w9_out h (by decide) (by decide) o
theorem w9i_10_13 {j : Nat} (h : Hp) (h0 : 10 ≤ j) (hj : j ≤ 13) : f_X9_within (Int32.toInt64 (nI j)) 10 13 h = some (1, h) := w9_in h h0 hj (by decide)
theorem w9o_10_13 {x : Int32} (h : Hp) (o : x < nI 10 ∨ nI 13 < x) : f_X9_within (Int32.toInt64 x) 10 13 h = some (0, h) := w9_out h (by decide) (by decide) o
theorem w9i_20_25 {j : Nat} (h : Hp) (h0 : 20 ≤ j) (hj : j ≤ 25) : f_X9_within (Int32.toInt64 (nI j)) 20 25 h = some (1, h) := w9_in h h0 hj (by decide)
theorem w9o_20_25 {x : Int32} (h : Hp) (o : x < nI 20 ∨ nI 25 < x) : f_X9_within (Int32.toInt64 x) 20 25 h = some (0, h) := w9_out h (by decide) (by decide) o
theorem w9i_30_35 {j : Nat} (h : Hp) (h0 : 30 ≤ j) (hj : j ≤ 35) : f_X9_within (Int32.toInt64 (nI j)) 30 35 h = some (1, h) := w9_in h h0 hj (by decide)
theorem w9o_30_35 {x : Int32} (h : Hp) (o : x < nI 30 ∨ nI 35 < x) : f_X9_within (Int32.toInt64 x) 30 35 h = some (0, h) := w9_out h (by decide) (by decide) o
theorem isWardi {j : Nat} (h : Hp) (hj : j ≤ 3) : f_X9_isWard (nI j) h = some (1, h) := by
  unfold f_X9_isWard
  rw [w9i_0_3 h (Nat.zero_le _) hj]
  rfl
theorem isWardo {x : Int32} (h : Hp) (o : x < 0 ∨ nI 3 < x) : f_X9_isWard x h = some (0, h) := by
  unfold f_X9_isWard
  rw [w9o_0_3 h o]
  rfl
theorem isPartyi {j : Nat} (h : Hp) (hj : j ≤ 5) : f_X9_isParty (nI j) h = some (1, h) := by
  unfold f_X9_isParty
  rw [w9i_0_5 h (Nat.zero_le _) hj]
  rfl
theorem isPartyo {x : Int32} (h : Hp) (o : x < 0 ∨ nI 5 < x) : f_X9_isParty x h = some (0, h) := by
  unfold f_X9_isParty
  rw [w9o_0_5 h o]
  rfl
theorem isHousei {j : Nat} (h : Hp) (hj : j ≤ 60) : f_X9_isHouse (nI j) h = some (1, h) := by
  unfold f_X9_isHouse
  rw [w9i_0_60 h (Nat.zero_le _) hj]
  rfl
theorem isHouseo {x : Int32} (h : Hp) (o : x < 0 ∨ nI 60 < x) : f_X9_isHouse x h = some (0, h) := by
  unfold f_X9_isHouse
  rw [w9o_0_60 h o]
  rfl
theorem isRowi {j : Nat} (h : Hp) (hj : j ≤ 3) : f_X9_isRow (nI j) h = some (1, h) := by
  unfold f_X9_isRow
  rw [w9i_0_3 h (Nat.zero_le _) hj]
  rfl
theorem isRowo {x : Int32} (h : Hp) (o : x < 0 ∨ nI 3 < x) : f_X9_isRow x h = some (0, h) := by
  unfold f_X9_isRow
  rw [w9o_0_3 h o]
  rfl
theorem cell8 (h : Hp) (w p : Nat) : f_X8_cellOf (nI w) (nI p) h = some (nI (w * 6 + p), h) := by
  unfold f_X8_cellOf
  rw [show (6 : Int32) = nI 6 from rfl, pk_mul, nI_add]
theorem one_ne : ¬ ((1 : Int32) = 0) := by decide
def up (N : Nat → Nat) (k v : Nat) : Nat → Nat := fun i => if i = k then v else N i
theorem up_self (N : Nat → Nat) (k v : Nat) : up N k v k = v := if_pos rfl
theorem up_ne (N : Nat → Nat) {k i : Nat} (v : Nat) (h : i ≠ k) : up N k v i = N i := if_neg h
theorem lc_lt (k : Nat) : (lc k).1 < 5 := by
  unfold lc
  repeat' split
  all_goals (dsimp only; omega)
theorem lc_inj {k k' : Nat} (h1 : k < 44) (h2 : k' < 44) (e1 : (lc k).1 = (lc k').1) (e2 : (lc k).2 = (lc k').2) : k = k' := by
  unfold lc at e1 e2
  repeat' split at e1
  all_goals (simp only [*, if_true, if_false] at e1 e2; try omega)
theorem Pc_set {h : Hp} {p : Nat} {N : Nat → Nat} {k v : Nat} (hk : k < 44) (a : Pc h p N) : Pc (sI h (p + (lc k).1) (lc k).2 (nI v)) p (up N k v) := fun k' hk' => by
  rw [sI1]
  by_cases e : k' = k
  · subst e
    rw [if_pos rfl, if_pos rfl, up_self]
  · rw [up_ne N v e]
    by_cases e1 : p + (lc k').1 = p + (lc k).1
    · rw [if_pos e1, if_neg (fun e2 => e (lc_inj hk' hk (by omega) e2))]
      exact a k' hk'
    · rw [if_neg e1]
      exact a k' hk'
theorem Po_set {h : Hp} {n : Nat} {N : Nat → Nat} {k v : Nat} (a : Po h n N) : Po (sI h n k (nI v)) n (up N k v) := fun k' hk' => by
  rw [sI1, if_pos rfl]
  by_cases e : k' = k
  · subst e
    rw [if_pos rfl, up_self]
  · rw [if_neg e, up_ne N v e]
    exact a k' hk'
theorem rel_set {PK : (Nat → Nat) → Hp → Prop} {N : Nat → Nat} {h : Hp} {k v : Nat} (hk : k < 44) (a : RelN PK N h) (hV : Vn (up N k v)) : RelN PK (up N k v) (sI (sI (sI (sI h (1 + (lc k).1) (lc k).2 (nI v)) 56 4 1) 109 k (nI v)) 108 3 0) := by
  obtain ⟨a1, a2, a3, a4, a5, a6, a7, a8⟩ := a
  have hl := lc_lt k
  have r : ∀ b, (b = 0 ∨ 5 < b) → b ≠ 56 → b ≠ 108 → b ≠ 109 → (sI (sI (sI (sI h (1 + (lc k).1) (lc k).2 (nI v)) 56 4 1) 109 k (nI v)) 108 3 0).1 b = h.1 b := fun b h1 h2 h3 h4 => by
    rw [sI_row _ _ _ h3, sI_row _ _ _ h4, sI_row _ _ _ h2, sI_row _ _ _ (by omega)]
  have r8 : ∀ i, i ≠ 3 → (sI (sI (sI (sI h (1 + (lc k).1) (lc k).2 (nI v)) 56 4 1) 109 k (nI v)) 108 3 0).1 108 i = h.1 108 i := fun i hi => by
    rw [sI1, if_pos rfl, if_neg hi, sI_row _ _ _ (by omega), sI_row _ _ _ (by omega), sI_row _ _ _ (by omega)]
  refine ⟨hV, (Pc_set hk a2).keep (fun j hj => ?_), fun k' hk' => ?_, a4.keep (by rw [r 0 (Or.inl rfl) (by decide) (by decide) (by decide)]) (r8 2 (by decide)) (fun j hj => r _ (by omega) (by omega) (by omega) (by omega)) (r 110 (by omega) (by decide) (by decide) (by decide)), a5.keep (by rw [r 96 (by omega) (by decide) (by decide) (by decide)]) (r8 6 (by decide)) (r 97 (by omega) (by decide) (by decide) (by decide)) (r 111 (by omega) (by decide) (by decide) (by decide)), a6.keep (by rw [r 98 (by omega) (by decide) (by decide) (by decide)]) (r8 28 (by decide)) (r 99 (by omega) (by decide) (by decide) (by decide)) (r 127 (by omega) (by decide) (by decide) (by decide)), a7.keep (r 106 (by omega) (by decide) (by decide) (by decide)) (r 135 (by omega) (by decide) (by decide) (by decide)) (fun j hj => r _ (by omega) (by omega) (by omega) (by omega)) (r 134 (by omega) (by decide) (by decide) (by decide)), Or.inl ⟨?_, ?_⟩⟩
  · rw [sI_row _ _ _ (by omega), sI_row _ _ _ (by omega), sI_row _ _ _ (by omega)]
  · rw [sI_row _ _ _ (by omega)]
    exact Po_set (h := sI (sI h (1 + (lc k).1) (lc k).2 (nI v)) 56 4 1) (a3.keep (by rw [sI_row _ _ _ (by omega), sI_row _ _ _ (by omega)])) k' hk'
  · rw [sI_row _ _ _ (by omega), sI_row _ _ _ (by omega), sI1, if_pos rfl, if_pos rfl]
  · rw [sI1, if_pos rfl, if_pos rfl]
theorem Vn_up {N : Nat → Nat} {k v : Nat} (a : Vn N) (hv : v ≤ bd k) (hk : k < 42) : Vn (up N k v) := ⟨fun i hi => by
  by_cases e : i = k
  · subst e
    rw [up_self]
    exact hv
  · rw [up_ne N v e]
    exact a.1 i hi, by rw [up_ne N v (by omega), up_ne N v (by omega)]; exact a.2.1, by rw [up_ne N v (by omega)]; exact a.2.2⟩
theorem tells9 (h : Hp) {k v : Nat} (hk : k < 44) : f_X9_tells 108 (nI k) (nI v) h = some (h.1 109 k, sI (sI h 109 k (nI v)) 108 3 0) := by
  unfold f_X9_tells
  rw [if_pos (ix_nI hk (by decide))]
  simp only [lt, nI_clamp (show k < 2 ^ 31 by omega), if_pos (ix_nI hk (by decide : 44 < 2 ^ 31))]
section SET
variable {PK : (Nat → Nat) → Hp → Prop}
theorem set_op {F G : Hp → Option (Int32 × Hp)} {N : Nat → Nat} {h : Hp} {k v : Nat} (hR : RelN PK N h) (hk : k < 44) (hV : Vn (up N k v)) (e1 : F h = some (h.1 (1 + (lc k).1) (lc k).2, sI (sI h (1 + (lc k).1) (lc k).2 (nI v)) 56 4 1)) (e2 : ∀ h1, G h1 = some (h1.1 109 k, sI (sI h1 109 k (nI v)) 108 3 0)) : ∃ r h1 h2, F h = some (r, h1) ∧ G h1 = some (r, h2) ∧ Rel PK h2 := by
  have hl := lc_lt k
  refine ⟨_, _, _, e1, ?_, ⟨up N k v, rel_set hk hR hV⟩⟩
  rw [e2, sI_row _ _ _ (by omega), sI_row _ _ _ (by omega), hR.2.1 k hk, hR.2.2.1 k hk]
theorem same_op {F G : Hp → Option (Int32 × Hp)} {h : Hp} {r : Int32} (hR : Rel PK h) (e1 : F h = some (r, h)) (e2 : G h = some (r, h)) : ∃ r h1 h2, F h = some (r, h1) ∧ G h1 = some (r, h2) ∧ Rel PK h2 := ⟨r, h, h, e1, e2, hR⟩
theorem op_vote (z1 z2 z3 : Int32) : Op (Rel PK) (fun h => f_X8_vote 0 z1 z2 z3 h) (fun h => f_X9_vote 108 z1 z2 z3 h) := by
  intro h ⟨N, hR⟩
  rcases rng z1 3 (by decide) with ⟨w, hw, rfl⟩ | o1
  · rcases rng z2 5 (by decide) with ⟨p, hp, rfl⟩ | o2
    · rcases rng z3 100000 (by decide) with ⟨v, hv, rfl⟩ | o3
      · have hk : w * 6 + p < 24 := by omega
        have hlc : lc (w * 6 + p) = (1, w * 6 + p) := if_pos hk
        refine set_op (k := w * 6 + p) (v := v) hR (by omega) (Vn_up hR.1 (by unfold bd; rw [if_pos hk]; exact hv) (by omega)) ?_ (fun h1 => ?_)
        · rw [hlc]
          unfold f_X8_vote
          simp only [w8i_3 h hw, w8i_5 h hp, w8i_100000 h hv, cell8, Option.bind_some, one_ne, if_false, ix_nI hk (by decide : 24 < 2 ^ 31), if_true, lt, nI_clamp (show w * 6 + p < 2 ^ 31 by omega), f_X2_forget]
        · have e6 : (6 : Int32) * nI w + nI p = nI (w * 6 + p) := by rw [show (6 : Int32) = nI 6 from rfl, pk_mul, nI_add, Nat.mul_comm]
          unfold f_X9_vote
          simp only [isWardi _ hw, isPartyi _ hp, w9i_0_100000 _ (Nat.zero_le v) hv, Option.bind_some, one_ne, if_false, e6, tells9 _ (show w * 6 + p < 44 by omega)]
      · refine same_op (r := -2) ⟨N, hR⟩ ?_ ?_
        · unfold f_X8_vote
          simp only [w8i_3 h hw, w8i_5 h hp, w8o_100000 h o3, Option.bind_some, one_ne, if_false, if_true]
        · unfold f_X9_vote
          simp only [isWardi _ hw, isPartyi _ hp, w9o_0_100000 _ o3, Option.bind_some, one_ne, if_false, if_true]
    · refine same_op (r := -1) ⟨N, hR⟩ ?_ ?_
      · unfold f_X8_vote
        simp only [w8i_3 h hw, w8o_5 h o2, Option.bind_some, one_ne, if_false, if_true]
      · unfold f_X9_vote
        simp only [isWardi _ hw, isPartyo _ o2, Option.bind_some, one_ne, if_false, if_true]
  · refine same_op (r := -1) ⟨N, hR⟩ ?_ ?_
    · unfold f_X8_vote
      simp only [w8o_3 h o1, Option.bind_some, if_true]
    · unfold f_X9_vote
      simp only [isWardo _ o1, Option.bind_some, if_true]
theorem op_seats (z1 z2 : Int32) : Op (Rel PK) (fun h => f_X8_seats 0 z1 z2 h) (fun h => f_X9_seats 108 z1 z2 h) := by
  intro h ⟨N, hR⟩
  rcases rng z1 3 (by decide) with ⟨w, hw, rfl⟩ | o1
  · rcases rng z2 30 (by decide) with ⟨v, hv, rfl⟩ | o2
    · have hlc : lc (24 + w) = (2, w) := by
        unfold lc
        rw [if_neg (by omega), if_pos (by omega)]; congr 1; omega
      refine set_op (k := 24 + w) (v := v) hR (by omega) (Vn_up hR.1 (by unfold bd; rw [if_neg (by omega), if_pos (by omega)]; exact hv) (by omega)) ?_ (fun h1 => ?_)
      · rw [hlc]
        unfold f_X8_seats
        simp only [w8i_3 h hw, w8i_30 h hv, Option.bind_some, one_ne, if_false, ix_nI (show w < 4 by omega) (by decide : 4 < 2 ^ 31), if_true, lt, nI_clamp (show w < 2 ^ 31 by omega), f_X2_forget]
      · have e6 : (24 : Int32) + nI w = nI (24 + w) := by rw [show (24 : Int32) = nI 24 from rfl, nI_add]
        unfold f_X9_seats
        simp only [isWardi _ hw, w9i_0_30 _ (Nat.zero_le v) hv, Option.bind_some, one_ne, if_false, e6, tells9 _ (show 24 + w < 44 by omega)]
    · refine same_op (r := -2) ⟨N, hR⟩ ?_ ?_
      · unfold f_X8_seats
        simp only [w8i_3 h hw, w8o_30 h o2, Option.bind_some, one_ne, if_false, if_true]
      · unfold f_X9_seats
        simp only [isWardi _ hw, w9o_0_30 _ o2, Option.bind_some, one_ne, if_false, if_true]
  · refine same_op (r := -1) ⟨N, hR⟩ ?_ ?_
    · unfold f_X8_seats
      simp only [w8o_3 h o1, Option.bind_some, if_true]
    · unfold f_X9_seats
      simp only [isWardo _ o1, Option.bind_some, if_true]
theorem op_least (z1 z2 : Int32) : Op (Rel PK) (fun h => f_X8_least 0 z1 z2 h) (fun h => f_X9_least 108 z1 z2 h) := by
  intro h ⟨N, hR⟩
  rcases rng z1 5 (by decide) with ⟨w, hw, rfl⟩ | o1
  · rcases rng z2 9 (by decide) with ⟨v, hv, rfl⟩ | o2
    · have hlc : lc (28 + w) = (3, w) := by
        unfold lc
        rw [if_neg (by omega), if_neg (by omega), if_pos (by omega)]; congr 1; omega
      refine set_op (k := 28 + w) (v := v) hR (by omega) (Vn_up hR.1 (by unfold bd; rw [if_neg (by omega), if_neg (by omega), if_pos (by omega)]; exact hv) (by omega)) ?_ (fun h1 => ?_)
      · rw [hlc]
        unfold f_X8_least
        simp only [w8i_5 h hw, w8i_9 h hv, Option.bind_some, one_ne, if_false, ix_nI (show w < 6 by omega) (by decide : 6 < 2 ^ 31), if_true, lt, nI_clamp (show w < 2 ^ 31 by omega), f_X2_forget]
      · have e6 : (28 : Int32) + nI w = nI (28 + w) := by rw [show (28 : Int32) = nI 28 from rfl, nI_add]
        unfold f_X9_least
        simp only [isPartyi _ hw, w9i_0_9 _ (Nat.zero_le v) hv, Option.bind_some, one_ne, if_false, e6, tells9 _ (show 28 + w < 44 by omega)]
    · refine same_op (r := -2) ⟨N, hR⟩ ?_ ?_
      · unfold f_X8_least
        simp only [w8i_5 h hw, w8o_9 h o2, Option.bind_some, one_ne, if_false, if_true]
      · unfold f_X9_least
        simp only [isPartyi _ hw, w9o_0_9 _ o2, Option.bind_some, one_ne, if_false, if_true]
  · refine same_op (r := -1) ⟨N, hR⟩ ?_ ?_
    · unfold f_X8_least
      simp only [w8o_5 h o1, Option.bind_some, if_true]
    · unfold f_X9_least
      simp only [isPartyo _ o1, Option.bind_some, if_true]
theorem op_join (z1 z2 : Int32) : Op (Rel PK) (fun h => f_X8_join 0 z1 z2 h) (fun h => f_X9_join 108 z1 z2 h) := by
  intro h ⟨N, hR⟩
  rcases rng z1 5 (by decide) with ⟨w, hw, rfl⟩ | o1
  · rcases rng z2 5 (by decide) with ⟨v, hv, rfl⟩ | o2
    · have hlc : lc (34 + w) = (4, w) := by
        unfold lc
        rw [if_neg (by omega), if_neg (by omega), if_neg (by omega), if_pos (by omega)]; congr 1; omega
      refine set_op (k := 34 + w) (v := v) hR (by omega) (Vn_up hR.1 (by unfold bd; rw [if_neg (by omega), if_neg (by omega), if_neg (by omega), if_pos (by omega)]; exact hv) (by omega)) ?_ (fun h1 => ?_)
      · rw [hlc]
        unfold f_X8_join
        simp only [w8i_5 h hw, w8i_5 h hv, Option.bind_some, one_ne, if_false, ix_nI (show w < 6 by omega) (by decide : 6 < 2 ^ 31), if_true, lt, nI_clamp (show w < 2 ^ 31 by omega), f_X2_forget]
      · have e6 : (34 : Int32) + nI w = nI (34 + w) := by rw [show (34 : Int32) = nI 34 from rfl, nI_add]
        unfold f_X9_join
        simp only [isPartyi _ hw, isPartyi _ hv, Option.bind_some, one_ne, if_false, e6, tells9 _ (show 34 + w < 44 by omega)]
    · refine same_op (r := -1) ⟨N, hR⟩ ?_ ?_
      · unfold f_X8_join
        simp only [w8i_5 h hw, w8o_5 h o2, Option.bind_some, one_ne, if_false, if_true]
      · unfold f_X9_join
        simp only [isPartyi _ hw, isPartyo _ o2, Option.bind_some, one_ne, if_false, if_true]
  · refine same_op (r := -1) ⟨N, hR⟩ ?_ ?_
    · unfold f_X8_join
      simp only [w8o_5 h o1, Option.bind_some, if_true]
    · unfold f_X9_join
      simp only [isPartyo _ o1, Option.bind_some, if_true]
theorem op_bar (z1 : Int32) : Op (Rel PK) (fun h => f_X8_bar 0 z1 h) (fun h => f_X9_bar 108 z1 h) := by
  intro h ⟨N, hR⟩
  rcases rng z1 500 (by decide) with ⟨v, hv, rfl⟩ | o2
  · refine set_op (k := 40) (v := v) hR (by omega) (Vn_up hR.1 hv (by omega)) ?_ (fun h1 => ?_)
    · show f_X8_bar 0 (nI v) h = some (h.1 1 4, sI (sI h 1 4 (nI v)) 56 4 1)
      unfold f_X8_bar
      simp only [w8i_500 h hv, Option.bind_some, one_ne, if_false, lt, f_X2_forget]
    · show f_X9_bar 108 (nI v) h1 = _
      unfold f_X9_bar
      simp only [w9i_0_500 _ (Nat.zero_le v) hv, Option.bind_some, one_ne, if_false, show (40 : Int32) = nI 40 from rfl, tells9 _ (show 40 < 44 by omega)]
  · refine same_op (r := -2) ⟨N, hR⟩ ?_ ?_
    · unfold f_X8_bar
      simp only [w8o_500 h o2, Option.bind_some, if_true]
    · unfold f_X9_bar
      simp only [w9o_0_500 _ o2, Option.bind_some, if_true]
theorem op_way (z1 : Int32) : Op (Rel PK) (fun h => f_X8_way 0 z1 h) (fun h => f_X9_way 108 z1 h) := by
  intro h ⟨N, hR⟩
  rcases rng z1 6 (by decide) with ⟨v, hv, rfl⟩ | o2
  · refine set_op (k := 41) (v := v) hR (by omega) (Vn_up hR.1 hv (by omega)) ?_ (fun h1 => ?_)
    · show f_X8_way 0 (nI v) h = some (h.1 1 5, sI (sI h 1 5 (nI v)) 56 4 1)
      unfold f_X8_way
      simp only [w8i_6 h hv, Option.bind_some, one_ne, if_false, lt, f_X2_forget]
    · show f_X9_way 108 (nI v) h1 = _
      unfold f_X9_way
      simp only [w9i_0_6 _ (Nat.zero_le v) hv, Option.bind_some, one_ne, if_false, show (41 : Int32) = nI 41 from rfl, tells9 _ (show 41 < 44 by omega)]
  · refine same_op (r := -1) ⟨N, hR⟩ ?_ ?_
    · unfold f_X8_way
      simp only [w8o_6 h o2, Option.bind_some, if_true]
    · unfold f_X9_way
      simp only [w9o_0_6 _ o2, Option.bind_some, if_true]
end SET
