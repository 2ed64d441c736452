/-! what is told, as natural numbers: N 0..23 votes, 24..27 seats of wards, 28..33 leasts, 34..39 lists, 40 bar, 41 way, 42 a, 43 b -/
def lc (k : Nat) : Nat × Nat := if k < 24 then (1, k) else if k < 28 then (2, k - 24) else if k < 34 then (3, k - 28) else if k < 40 then (4, k - 34) else (0, k - 36)
def Pc (h : Hp) (p : Nat) (N : Nat → Nat) : Prop := ∀ k, k < 44 → h.1 (p + (lc k).1) (lc k).2 = nI (N k)
def Po (h : Hp) (n : Nat) (N : Nat → Nat) : Prop := ∀ k, k < 44 → h.1 n k = nI (N k)
def bd (k : Nat) : Nat := if k < 24 then 100000 else if k < 28 then 30 else if k < 34 then 9 else if k < 40 then 5 else if k = 40 then 500 else if k = 41 then 6 else 99
def Vn (N : Nat → Nat) : Prop := (∀ k, k < 44 → N k ≤ bd k) ∧ N 42 ≤ N 43 ∧ 1 ≤ N 43
def RI (h : Hp) : Prop := h.1 0 10 = h.1 108 2 ∧ (h.1 108 2 = 0 ∨ (h.1 108 2 = 1 ∧ ∃ M, Vn M ∧ Pc h 6 M ∧ Po h 110 M))
def RT (h : Hp) : Prop := ∃ t, t ≤ 120 ∧ h.1 96 1 = nI t ∧ h.1 108 6 = nI t ∧ ∀ i, i < t → h.1 97 i = h.1 111 i
def RS (h : Hp) : Prop := ∃ t, t ≤ 96 ∧ h.1 98 1 = nI t ∧ h.1 108 28 = nI t ∧ ∀ i, i < t → h.1 99 i = h.1 127 i
def RR (h : Hp) : Prop := ∀ r, r < 4 → (h.1 106 r = -1 ∧ h.1 135 r = -1) ∨ ∃ n, n ≤ 40 ∧ h.1 106 r = nI n ∧ h.1 135 r = nI n ∧ ∀ i, i < n → h.1 (102 + r) i = h.1 134 (40 * r + i)
def RPl (PK : (Nat → Nat) → Hp → Prop) (N : Nat → Nat) (h : Hp) : Prop := (h.1 56 4 = 1 ∧ h.1 108 3 = 0) ∨ PK N h
def RelN (PK : (Nat → Nat) → Hp → Prop) (N : Nat → Nat) (h : Hp) : Prop := Vn N ∧ Pc h 1 N ∧ Po h 109 N ∧ RI h ∧ RT h ∧ RS h ∧ RR h ∧ RPl PK N h
def Rel (PK : (Nat → Nat) → Hp → Prop) (h : Hp) : Prop := ∃ N, RelN PK N h
abbrev keepRows : List Nat := [1, 2, 3, 4, 5, 6, 7, 8, 9, 10, 57, 77, 97, 99, 102, 103, 104, 105, 106, 109, 110, 111, 127, 131, 134, 135]
abbrev keepCells : List (Nat × Nat) := [(0, 10), (56, 4), (56, 5), (58, 0), (58, 1), (67, 2), (96, 1), (98, 1), (108, 2), (108, 3), (108, 4), (108, 6), (108, 28)]
/-- what the relation speaks of stays -/
def Keep (h h' : Hp) : Prop := (∀ k ∈ keepRows, h'.1 k = h.1 k) ∧ ∀ q ∈ keepCells, h'.1 q.1 q.2 = h.1 q.1 q.2
theorem Keep.refl {h : Hp} : Keep h h := ⟨fun _ _ => rfl, fun _ _ => rfl⟩
theorem Keep.trans {h h1 h2 : Hp} (a : Keep h h1) (b : Keep h1 h2) : Keep h h2 := ⟨fun k x => (b.1 k x).trans (a.1 k x), fun k x => (b.2 k x).trans (a.2 k x)⟩
theorem Keep.ofFc {lo hi : Nat} {X : List Nat} {h h' : Hp} (a : Fc lo hi X h h') (h1 : ∀ k ∈ keepRows, (k < lo ∨ hi ≤ k) ∧ k ∉ X) (h2 : ∀ q ∈ keepCells, (q.1 < lo ∨ hi ≤ q.1) ∧ q.1 ∉ X) : Keep h h' := ⟨fun k x => (a k (h1 k x).1 (h1 k x).2).1, fun q x => by rw [(a q.1 (h2 q x).1 (h2 q x).2).1]⟩
theorem Keep.ofFx {L S : List Nat} {h h' : Hp} (a : Fx L S h h') (h1 : ∀ k ∈ keepRows, k ∉ L ∧ k ≠ 108) (h2 : ∀ q ∈ keepCells, (q.1 = 108 ∧ q.2 ∉ S) ∨ (q.1 ≠ 108 ∧ q.1 ∉ L)) : Keep h h' := ⟨fun k x => a.1 k (h1 k x).1 (h1 k x).2, fun q x => by
  rcases h2 q x with ⟨e, g⟩ | ⟨e, g⟩
  · rw [e]
    exact a.2.2 q.2 g
  · rw [a.1 q.1 g e]⟩
/-- PK speaks only of what is kept -/
def PKok (PK : (Nat → Nat) → Hp → Prop) : Prop := ∀ N h h', h'.1 56 4 = h.1 56 4 → h'.1 108 3 = h.1 108 3 → h'.1 56 5 = h.1 56 5 → h'.1 108 4 = h.1 108 4 → h'.1 57 = h.1 57 → h'.1 131 = h.1 131 → h'.1 67 2 = h.1 67 2 → h'.1 77 = h.1 77 → h'.1 58 0 = h.1 58 0 → h'.1 58 1 = h.1 58 1 → PK N h → PK N h'
theorem Pc.keep {h h' : Hp} {p : Nat} {N : Nat → Nat} (a : Pc h p N) (hk : ∀ j, j < 5 → h'.1 (p + j) = h.1 (p + j)) : Pc h' p N := fun k x => by
  have : (lc k).1 < 5 := by
    unfold lc
    repeat' split
    all_goals (dsimp only; omega)
  rw [hk _ this]
  exact a k x
theorem Po.keep {h h' : Hp} {n : Nat} {N : Nat → Nat} (a : Po h n N) (hk : h'.1 n = h.1 n) : Po h' n N := fun k x => by
  rw [hk]
  exact a k x
theorem RI.keep {h h' : Hp} (a : RI h) (h0 : h'.1 0 10 = h.1 0 10) (h2 : h'.1 108 2 = h.1 108 2) (hk : ∀ j, j < 5 → h'.1 (6 + j) = h.1 (6 + j)) (h110 : h'.1 110 = h.1 110) : RI h' := by
  obtain ⟨a1, a2⟩ := a
  refine ⟨by rw [h0, h2]; exact a1, ?_⟩
  rw [h2]
  rcases a2 with a2 | ⟨a2, M, b1, b2, b3⟩
  · exact Or.inl a2
  · exact Or.inr ⟨a2, M, b1, b2.keep hk, b3.keep h110⟩
theorem RT.keep {h h' : Hp} (a : RT h) (h0 : h'.1 96 1 = h.1 96 1) (h2 : h'.1 108 6 = h.1 108 6) (h3 : h'.1 97 = h.1 97) (h4 : h'.1 111 = h.1 111) : RT h' := by
  unfold RT
  rw [h0, h2, h3, h4]
  exact a
theorem RS.keep {h h' : Hp} (a : RS h) (h0 : h'.1 98 1 = h.1 98 1) (h2 : h'.1 108 28 = h.1 108 28) (h3 : h'.1 99 = h.1 99) (h4 : h'.1 127 = h.1 127) : RS h' := by
  unfold RS
  rw [h0, h2, h3, h4]
  exact a
theorem RR.keep {h h' : Hp} (a : RR h) (h0 : h'.1 106 = h.1 106) (h2 : h'.1 135 = h.1 135) (h3 : ∀ r, r < 4 → h'.1 (102 + r) = h.1 (102 + r)) (h4 : h'.1 134 = h.1 134) : RR h' := fun r hr => by
  rw [h0, h2, h3 r hr, h4]
  exact a r hr
theorem RPl.keep {PK : (Nat → Nat) → Hp → Prop} (hPK : PKok PK) {N : Nat → Nat} {h h' : Hp} (k : Keep h h') (a : RPl PK N h) : RPl PK N h' := by
  unfold RPl
  rw [k.2 (56, 4) (by decide), k.2 (108, 3) (by decide)]
  rcases a with a | c
  · exact Or.inl a
  · exact Or.inr (hPK N h h' (k.2 (56, 4) (by decide)) (k.2 (108, 3) (by decide)) (k.2 (56, 5) (by decide)) (k.2 (108, 4) (by decide)) (k.1 57 (by decide)) (k.1 131 (by decide)) (k.2 (67, 2) (by decide)) (k.1 77 (by decide)) (k.2 (58, 0) (by decide)) (k.2 (58, 1) (by decide)) c)
theorem RelN.keep {PK : (Nat → Nat) → Hp → Prop} (hPK : PKok PK) {N : Nat → Nat} {h h' : Hp} (k : Keep h h') (a : RelN PK N h) : RelN PK N h' := by
  obtain ⟨a1, a2, a3, a4, a5, a6, a7, a8⟩ := a
  refine ⟨a1, a2.keep ?_, a3.keep (k.1 109 (by decide)), a4.keep (k.2 (0, 10) (by decide)) (k.2 (108, 2) (by decide)) ?_ (k.1 110 (by decide)), a5.keep (k.2 (96, 1) (by decide)) (k.2 (108, 6) (by decide)) (k.1 97 (by decide)) (k.1 111 (by decide)), a6.keep (k.2 (98, 1) (by decide)) (k.2 (108, 28) (by decide)) (k.1 99 (by decide)) (k.1 127 (by decide)), a7.keep (k.1 106 (by decide)) (k.1 135 (by decide)) ?_ (k.1 134 (by decide)), a8.keep hPK k⟩
  · intro j hj
    rcases (show j = 0 ∨ j = 1 ∨ j = 2 ∨ j = 3 ∨ j = 4 by omega) with rfl | rfl | rfl | rfl | rfl <;> exact k.1 _ (by decide)
  · intro j hj
    rcases (show j = 0 ∨ j = 1 ∨ j = 2 ∨ j = 3 ∨ j = 4 by omega) with rfl | rfl | rfl | rfl | rfl <;> exact k.1 _ (by decide)
  · intro j hj
    rcases (show j = 0 ∨ j = 1 ∨ j = 2 ∨ j = 3 by omega) with rfl | rfl | rfl | rfl <;> exact k.1 _ (by decide)
/-! numbers -/
theorem sI1 (h : Hp) (a i : Nat) (v : Int32) (b j : Nat) : (sI h a i v).1 b j = if b = a then (if j = i then v else h.1 b j) else h.1 b j := by
  unfold sI rI
  dsimp only
  by_cases e : b = a
  · subst e
    rw [if_pos rfl, if_pos rfl]
    rfl
  · rw [if_neg e, if_neg e]
theorem sI_row (h : Hp) {a b : Nat} (i : Nat) (v : Int32) (n : b ≠ a) : (sI h a i v).1 b = h.1 b := rI_ne h _ n
theorem sI_2 (h : Hp) (a i : Nat) (v : Int32) : (sI h a i v).2 = h.2 := rfl
theorem lg_lt {x y : Int64} : lg_cmp x y < 0 ↔ x < y := by
  unfold lg_cmp
  by_cases h1 : x > y
  · rw [if_pos h1]
    have : ¬ x < y := fun h => absurd (Int64.lt_trans h1 h) (Int64.lt_irrefl)
    simp [this]
  · rw [if_neg h1]
    by_cases h2 : x = y
    · rw [if_pos h2, h2]
      simp [Int64.lt_irrefl]
    · rw [if_neg h2]
      have : x < y := by
        rcases Int64.lt_or_eq_of_le (Int64.not_lt.mp h1) with h | h
        · exact h
        · exact absurd h h2
      simp [this]
theorem lg_gt {x y : Int64} : 0 < lg_cmp x y ↔ y < x := by
  unfold lg_cmp
  by_cases h1 : x > y
  · rw [if_pos h1]
    simp [h1]
  · rw [if_neg h1]
    by_cases h2 : x = y
    · rw [if_pos h2, h2]
      simp [Int64.lt_irrefl]
    · rw [if_neg h2]
      simp [h1]
theorem rng (x : Int32) (n : Nat) (hn : n < 2 ^ 31 - 1) : (∃ j, j ≤ n ∧ x = nI j) ∨ (x < 0 ∨ nI n < x) := by
  by_cases h1 : x < 0
  · exact Or.inr (Or.inl h1)
  · by_cases h2 : nI n < x
    · exact Or.inr (Or.inr h2)
    · obtain ⟨j, hj, e⟩ := nI_of h1
      subst e
      refine Or.inl ⟨j, ?_, rfl⟩
      rw [nI_ltI (by omega) hj] at h2
      omega
theorem w8_in {j n : Nat} (h : Hp) (hj : j ≤ n) (hn : n < 2 ^ 31) : f_X8_within (nI j) (nI n) h = some (1, h) := by
  unfold f_X8_within
  rw [if_neg (nI_pos (by omega)), if_neg (by rw [nI_ltI hn (by omega)]; omega)]
  rfl
theorem w8_out {x : Int32} {n : Nat} (h : Hp) (o : x < 0 ∨ nI n < x) : f_X8_within x (nI n) h = some (0, h) := by
  unfold f_X8_within
  by_cases h1 : x < 0
  · rw [if_pos h1]
    rfl
  · rw [if_neg h1, if_pos (o.resolve_left h1)]
    rfl
theorem i64_lt (x y : Int32) : x.toInt64 < y.toInt64 ↔ x < y := by
  rw [Int64.lt_iff_toInt_lt, Int32.lt_iff_toInt_lt, Int32.toInt_toInt64, Int32.toInt_toInt64]
theorem w9_in {lo j n : Nat} (h : Hp) (h0 : lo ≤ j) (hj : j ≤ n) (hn : n < 2 ^ 31) : f_X9_within (Int32.toInt64 (nI j)) (lN lo) (lN n) h = some (1, h) := by
  unfold f_X9_within
  have h1 : ¬ lg_cmp (Int32.toInt64 (nI j)) (lN lo) < 0 := by rw [lg_lt, nI_l (by omega), lN_lt (by omega) (by omega)]; omega
  have h2 : ¬ 0 < lg_cmp (Int32.toInt64 (nI j)) (lN n) := by rw [lg_gt, nI_l (by omega), lN_lt (by omega) (by omega)]; omega
  rw [if_neg h1, if_neg h2]
  rfl
theorem w9_out {x : Int32} {lo n : Nat} (h : Hp) (hl : lo < 2 ^ 31) (hn : n < 2 ^ 31) (o : x < nI lo ∨ nI n < x) : f_X9_within (Int32.toInt64 x) (lN lo) (lN n) h = some (0, h) := by
  unfold f_X9_within
  by_cases h1 : x < nI lo
  · rw [if_pos (by rw [lg_lt, ← nI_l hl, i64_lt]; exact h1)]
    rfl
  · rw [if_neg (by rw [lg_lt, ← nI_l hl, i64_lt]; exact h1), if_pos (by rw [lg_gt, ← nI_l hn, i64_lt]; exact o.resolve_left h1)]
    rfl
