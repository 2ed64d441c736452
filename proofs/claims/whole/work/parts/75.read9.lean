theorem isF9 {h : Hp} {T : Nat → Int32} {t a : Nat} (p : Tp9 h T t) (ht : t ≤ 120) (e7 : h.1 108 7 = nI a) (ha : a ≤ t) : f_X9_isFigure 108 h = some (if (decide (a < t) && isFg (T a)) = true then 1 else 0, h) := by
  unfold f_X9_isFigure
  rw [p.1, e7]
  by_cases h1 : a < t
  · rw [if_neg (nI_ge h1 (by omega)), if_pos (ix_nI (by omega) (by decide)), nI_clamp (by omega), show h.1 (108 + 3) a = _ from p.2 a h1, decide_eq_true h1, Bool.true_and]
    unfold isFg
    by_cases q1 : T a < 48
    · rw [show f_X9_within (Int32.toInt64 (T a)) 48 57 h = some (0, h) from w9_out (lo := 48) (n := 57) h (by decide) (by decide) (Or.inl q1)]
      simp only [Option.bind_some, if_true, isB0]
      rw [decide_eq_true q1]
      rfl
    · by_cases q2 : 57 < T a
      · rw [show f_X9_within (Int32.toInt64 (T a)) 48 57 h = some (0, h) from w9_out (lo := 48) (n := 57) h (by decide) (by decide) (Or.inr q2)]
        simp only [Option.bind_some, if_true, isB0]
        rw [decide_eq_true q2, decide_eq_false q1]
        rfl
      · rw [decide_eq_false q2, decide_eq_false q1]
        rcases rng (T a) 57 (by decide) with ⟨j, hj, ej⟩ | o
        · have hj1 : 48 ≤ j := by
            have := Int32.not_lt.mp q1
            rw [ej, show (48 : Int32) = nI 48 from rfl, nI_leI (by omega) (by omega)] at this
            exact this
          rw [ej, show f_X9_within (Int32.toInt64 (nI j)) 48 57 h = some (1, h) from w9_in (lo := 48) (n := 57) h hj1 hj (by decide)]
          simp only [Option.bind_some, one_ne, if_false, isB1, if_true]
          rfl
        · rcases o with o | o
          · exact absurd (Int32.lt_of_lt_of_le o (show (0 : Int32) ≤ 48 by decide)) q1
          · exact absurd o q2
  · rw [if_pos (nI_le (by omega) (by omega)), decide_eq_false h1, if_pos isB0]
    rfl
/-- what a number of votes is read as -/
def rvN (T : Nat → Int32) (t a : Nat) : Int32 := if cnt T t a = 0 then -100 - nI a else if vlu T a (cnt T t a) ≤ 100000 then nI (vlu T a (cnt T t a)) else -100 - nI a
theorem votes9r {h : Hp} {T : Nat → Int32} {t a : Nat} (p : Tp9 h T t) (ht : t ≤ 120) (e7 : h.1 108 7 = nI a) (ha : a ≤ t) : f_X9_readsVotes 108 h = some (rvN T t a, sI h 108 7 (nI (a + cnt T t a))) := by
  obtain ⟨c1, c2⟩ := cnt_ok T t a
  have hv := vlu_6 c1 (fun j hj => (c2 j hj).2)
  have tp : ∀ x, Tp9 (sI h 108 7 x) T t := fun x => ⟨by rw [sI1, if_pos rfl, if_neg (by decide)]; exact p.1, fun i hi => by rw [sI_row _ _ _ (by decide)]; exact p.2 i hi⟩
  have s7 : ∀ x, (sI h 108 7 x).1 108 7 = x := fun x => by rw [sI1, if_pos rfl, if_pos rfl]
  unfold f_X9_readsVotes
  simp only [lt]
  rw [e7]
  have := lp_seq (F := Nat → Int32 → Int32 → Hp → Option (Int32 × Hp)) (bot := fun _ _ _ _ => none) (G := f_X9_readsVotes_7) (fun K i (_ : Unit) => K 108 (nI a) (nI (vlu T a i)) (sI h 108 7 (nI (a + i)))) (cnt T t a) (fun _ => ()) (some (rvN T t a, sI h 108 7 (nI (a + cnt T t a)))) ?_ ?_ 1000 0 (by omega) (by omega)
  · rw [Nat.add_zero, show sI h 108 7 (nI a) = h by rw [← e7, sI_same]] at this
    exact this
  · intro K i hi
    obtain ⟨f1, f2⟩ := c2 i hi
    obtain ⟨d, d1, d2, d3⟩ := isFg_d f2
    show f_X9_readsVotes_7 K 108 (nI a) (nI (vlu T a i)) (sI h 108 7 (nI (a + i))) = K 108 (nI a) (nI (vlu T a i * 10 + dgt (T (a + i)))) (sI h 108 7 (nI (a + (i + 1))))
    unfold f_X9_readsVotes_7
    rw [isF9 (tp _) ht (s7 _) (by omega), if_pos (by rw [decide_eq_true f1, f2]; rfl)]
    simp only [Option.bind_some, one_ne, if_false, s7]
    rw [show nI a + 6 = nI (a + 6) from nI_add a 6, if_neg (nI_ge (by omega) (by omega)), if_pos (ix_nI (by omega) (by decide)), nI_clamp (by omega), show (sI h 108 7 (nI (a + i))).1 (108 + 3) (a + i) = _ from (tp _).2 _ f1, d2, (vstep (v := vlu T a i) (d := d)).2]
    simp only [lt, nI_1, sI_sI]
    rw [show dgt (nI (48 + d)) = d by rw [← d2]; exact d3]
    rfl
  · intro K
    show f_X9_readsVotes_7 K 108 (nI a) (nI (vlu T a (cnt T t a))) (sI h 108 7 (nI (a + cnt T t a))) = _
    have e56 : f_X9_readsVotes_56 108 (nI a) (nI (vlu T a (cnt T t a))) (sI h 108 7 (nI (a + cnt T t a))) = some (rvN T t a, sI h 108 7 (nI (a + cnt T t a))) := by
      unfold f_X9_readsVotes_56 rvN
      rw [s7]
      by_cases z : cnt T t a = 0
      · rw [if_pos z, z, Nat.add_zero, if_pos rfl]
      · rw [if_neg z, if_neg (by rw [nI_eq (by omega) (by omega)]; omega)]
        by_cases z2 : vlu T a (cnt T t a) ≤ 100000
        · rw [if_pos z2, if_pos (show nI (vlu T a (cnt T t a)) ≤ 100000 from nI_le (b := 100000) z2 (by decide))]
        · rw [if_neg z2, if_neg (show ¬ nI (vlu T a (cnt T t a)) ≤ 100000 from nI_ge (a := 100000) (by omega) (by omega))]
    have hat : a + cnt T t a ≤ t := by
      by_cases z : cnt T t a = 0
      · omega
      · have := (c2 (cnt T t a - 1) (by omega)).1
        omega
    unfold f_X9_readsVotes_7
    rw [isF9 (tp _) ht (s7 _) hat]
    simp only [Option.bind_some]
    by_cases z : (decide (a + cnt T t a < t) && isFg (T (a + cnt T t a))) = true
    · rw [if_pos z, if_neg one_ne]
      simp only [s7]
      have h6 : cnt T t a = 6 := by
        by_cases q : cnt T t a < 6
        · exfalso
          -- a figure more: it would be counted
          cases hh : ff (fun c => !(decide (a + c < t) && isFg (T (a + c)))) 6 0 with
          | none =>
            have : cnt T t a = 6 := by unfold cnt; rw [hh]; rfl
            omega
          | some c =>
            have ec : cnt T t a = c := by unfold cnt; rw [hh]; rfl
            have := (ff_sp hh).1
            rw [← ec, z] at this
            cases this
        · omega
      rw [show nI a + 6 = nI (a + 6) from nI_add a 6, if_pos (nI_le (by omega) (by omega))]
      exact e56
    · rw [if_neg z, if_pos rfl]
      exact e56
def oI : Option Nat → Int32
  | none => -1
  | some v => nI v
def Dr (h : Hp) (D : Nat → Option Nat) : Prop := ∀ k, k < 24 → h.1 112 k = oI (D k)
theorem reads9 {T : Nat → Int32} {t : Nat} (ht : t ≤ 120) : ∀ m n wd pt a c D h, m + 1 < n → 24 ≤ 6 * wd + pt + m → wd < 4 → pt < 6 → a ≤ t → c ≤ 6 * wd + pt → Tp9 h T t → h.1 108 7 = nI a → Dr h D → ∃ b, lp (F := Nat → Int32 → Int32 → Int32 → Hp → Option (Int32 × Hp)) (fun _ _ _ _ _ => none) f_X9_readsAll_36 n 108 (nI c) (nI wd) (nI pt) h = some b ∧ b.1 = (rdS T t m wd pt a c D).1 ∧ (¬ b.1 < 0 → Dr b.2 (rdS T t m wd pt a c D).2) := by
  intro m
  induction m with
  | zero => intro n wd pt a c D h h0 h1 h2 h3; omega
  | succ m ih =>
    intro n wd pt a c D h h0 h1 h2 h3 h4 h5 p9 e7 dr
    obtain ⟨n, rfl⟩ : ∃ k, n = k + 1 := ⟨n - 1, by omega⟩
    obtain ⟨c1, c2⟩ := cnt_ok T t a
    have hv := vlu_6 c1 (fun j hj => (c2 j hj).2)
    have hat : a + cnt T t a ≤ t := by
      by_cases z : cnt T t a = 0
      · omega
      · have := (c2 (cnt T t a - 1) (by omega)).1
        omega
    have K4 : ∀ x h, h.1 108 7 = nI x → ∃ b, lp (F := Nat → Int32 → Int32 → Int32 → Hp → Option (Int32 × Hp)) (fun _ _ _ _ _ => none) f_X9_readsAll_36 n 108 (nI (c + 1)) (nI 4) 0 h = some (-100 - nI x, b) := fun x h e => by
      obtain ⟨n, rfl⟩ : ∃ k, n = k + 1 := ⟨n - 1, by omega⟩
      refine ⟨h, ?_⟩
      show f_X9_readsAll_36 _ 108 (nI (c + 1)) (nI 4) 0 h = _
      unfold f_X9_readsAll_36
      rw [if_pos (by decide), e]
    show ∃ b, f_X9_readsAll_36 (lp (F := Nat → Int32 → Int32 → Int32 → Hp → Option (Int32 × Hp)) (fun _ _ _ _ _ => none) f_X9_readsAll_36 n) 108 (nI c) (nI wd) (nI pt) h = some b ∧ _
    have ih2 := fun wd pt a c D h => ih n wd pt a c D h (by omega)
    generalize lp (F := Nat → Int32 → Int32 → Int32 → Hp → Option (Int32 × Hp)) (fun _ _ _ _ _ => none) f_X9_readsAll_36 n = K at ih2 K4
    unfold rdS f_X9_readsAll_36
    rw [if_neg (show ¬ (4 : Int32) ≤ nI wd from nI_ge (b := 4) h2 (by decide)), votes9r p9 ht e7 h4]
    simp only [Option.bind_some]
    have hneg : ¬ 0 ≤ (-100 : Int32) - nI a := Int32.not_le.mpr (neg100 (by omega))
    by_cases g1 : cnt T t a = 0 ∨ 100000 < vlu T a (cnt T t a)
    · have er : rvN T t a = -100 - nI a := by
        unfold rvN
        by_cases z : cnt T t a = 0
        · rw [if_pos z]
        · rw [if_neg z, if_neg (by omega)]
      rw [if_pos g1, er, if_neg hneg]
      exact ⟨_, rfl, rfl, fun z => absurd (neg100 (k := a) (by omega)) z⟩
    · have er : rvN T t a = nI (vlu T a (cnt T t a)) := by
        unfold rvN
        rw [if_neg (by omega), if_pos (by omega)]
      rw [if_neg g1, er, if_pos (nI_pos' (by omega)), c6]
      simp only [ix_nI (show 6 * wd + pt < 24 by omega) (by decide : 24 < 2 ^ 31), if_true, lt, nI_clamp (show 6 * wd + pt < 2 ^ 31 by omega), nI_1, show 108 + 4 = 112 from rfl]
      have p92 : Tp9 (sI (sI h 108 7 (nI (a + cnt T t a))) 112 (6 * wd + pt) (nI (vlu T a (cnt T t a)))) T t := ⟨by rw [sI_row _ _ _ (by decide), sI1, if_pos rfl, if_neg (by decide)]; exact p9.1, fun i hi => by rw [sI_row _ _ _ (by decide), sI_row _ _ _ (by decide)]; exact p9.2 i hi⟩
      have e72 : (sI (sI h 108 7 (nI (a + cnt T t a))) 112 (6 * wd + pt) (nI (vlu T a (cnt T t a)))).1 108 7 = nI (a + cnt T t a) := by rw [sI_row _ _ _ (by decide), sI1, if_pos rfl, if_pos rfl]
      have dr2 : Dr (sI (sI h 108 7 (nI (a + cnt T t a))) 112 (6 * wd + pt) (nI (vlu T a (cnt T t a)))) (upD D (6 * wd + pt) (vlu T a (cnt T t a))) := fun k hk => by
        unfold upD
        rw [sI1, if_pos rfl]
        by_cases ek : k = 6 * wd + pt
        · rw [if_pos ek, if_pos ek]
          rfl
        · rw [if_neg ek, if_neg ek, sI_row _ _ _ (by decide)]
          exact dr k hk
      generalize sI (sI h 108 7 (nI (a + cnt T t a))) 112 (6 * wd + pt) (nI (vlu T a (cnt T t a))) = h2 at p92 e72 dr2
      rw [e72, p92.1]
      by_cases g2 : a + cnt T t a = t
      · rw [if_pos g2, if_pos (by rw [g2])]
        exact ⟨_, rfl, rfl, fun _ => dr2⟩
      · rw [if_neg g2, if_neg (by rw [nI_eq (by omega) (by omega)]; exact g2), if_pos (ix_nI (by omega) (by decide)), nI_clamp (by omega), show h2.1 (108 + 3) (a + cnt T t a) = _ from p92.2 _ (by omega)]
        have up7 : ∀ x, x = nI (a + cnt T t a + 1) → Tp9 (sI h2 108 7 x) T t ∧ (sI h2 108 7 x).1 108 7 = nI (a + cnt T t a + 1) ∧ Dr (sI h2 108 7 x) (upD D (6 * wd + pt) (vlu T a (cnt T t a))) := fun x hx => ⟨⟨by rw [sI1, if_pos rfl, if_neg (by decide)]; exact p92.1, fun i hi => by rw [sI_row _ _ _ (by decide)]; exact p92.2 i hi⟩, by rw [sI1, if_pos rfl, if_pos rfl, hx], fun k hk => by rw [sI_row _ _ _ (by decide)]; exact dr2 k hk⟩
        obtain ⟨u1, u2, u3⟩ := up7 _ rfl
        by_cases g47 : T (a + cnt T t a) = 47
        · have n44 : ¬ T (a + cnt T t a) = 44 := by rw [g47]; decide
          rw [if_pos g47, if_neg (fun z => n44 z.1), if_pos g47]
          unfold f_X9_readsAll_104 f_X9_readsAll_139 f_X9_readsAll_150 f_X9_readsAll_165
          rw [if_neg one_ne, if_neg one_ne]
          simp only [lt, one_ne, if_false, nI_1, e72]
          by_cases g5 : wd < 3
          · rw [if_pos g5]
            exact ih2 (wd + 1) 0 (a + cnt T t a + 1) (c + 1) _ _ (by omega) (by omega) (by omega) (by omega) (by omega) u1 u2 u3
          · rw [if_neg g5, show wd + 1 = 4 by omega]
            obtain ⟨b, eb⟩ := K4 (a + cnt T t a + 1) _ u2
            rw [eb]
            exact ⟨_, rfl, rfl, fun z => absurd (neg100 (k := a + cnt T t a + 1) (by omega)) z⟩
        · rw [if_neg g47]
          unfold f_X9_readsAll_104 f_X9_readsAll_131 f_X9_readsAll_139 f_X9_readsAll_150 f_X9_readsAll_165
          rw [if_pos rfl, e72, if_pos (ix_nI (by omega) (by decide)), nI_clamp (by omega), show h2.1 (108 + 3) (a + cnt T t a) = _ from p92.2 _ (by omega)]
          by_cases g44 : T (a + cnt T t a) = 44
          · rw [if_pos g44]
            by_cases g5 : pt < 5
            · rw [if_neg (by rw [show (5 : Int32) = nI 5 from rfl, nI_eq (by omega) (by omega)]; omega), if_pos (show T (a + cnt T t a) = 44 ∧ pt < 5 from ⟨g44, g5⟩)]
              simp only [lt, if_true, nI_1, show nI wd + 0 = nI wd from nI_add wd 0]
              exact ih2 wd (pt + 1) (a + cnt T t a + 1) (c + 1) _ _ (by omega) (by omega) (by omega) (by omega) (by omega) u1 u2 u3
            · rw [if_pos (by rw [show (5 : Int32) = nI 5 from rfl, nI_eq (by omega) (by omega)]; omega), if_neg (fun z => g5 z.2), if_neg g47]
              exact ⟨_, rfl, rfl, fun z => absurd (neg100 (k := a + cnt T t a) (by omega)) z⟩
          · rw [if_neg g44, if_neg (fun z => g44 z.1), if_neg g47]
            exact ⟨_, rfl, rfl, fun z => absurd (neg100 (k := a + cnt T t a) (by omega)) z⟩
theorem readsAll9 {T : Nat → Int32} {t : Nat} (ht : t ≤ 120) {wd : Nat} (hw : wd < 4) {h : Hp} (p9 : Tp9 h T t) : ∃ b, f_X9_readsAll 108 (nI wd) h = some b ∧ b.1 = (rdS T t 24 wd 0 0 0 (fun _ => none)).1 ∧ (¬ b.1 < 0 → Dr b.2 (rdS T t 24 wd 0 0 0 (fun _ => none)).2) := by
  unfold f_X9_readsAll
  simp only [lt]
  have p : Tp9 (sI h 108 7 0) T t := ⟨by rw [sI1, if_pos rfl, if_neg (by decide)]; exact p9.1, fun i hi => by rw [sI_row _ _ _ (by decide)]; exact p9.2 i hi⟩
  have e7 : (sI h 108 7 0).1 108 7 = nI 0 := by rw [sI1, if_pos rfl, if_pos rfl]; rfl
  refine lp_inv (F := Nat → Int32 → Int32 → Int32 → Int32 → Hp → Option (Int32 × Hp)) (bot := fun _ _ _ _ _ _ => none) (G := f_X9_readsAll_15) (fun K i (h : Hp) => K 108 0 (nI wd) 0 (nI i) h) 24 (fun i h' => Tp9 h' T t ∧ h'.1 108 7 = nI 0 ∧ ∀ k, k < i → h'.1 112 k = -1) _ ?_ ?_ 1000 0 (sI h 108 7 0) (by omega) (by omega) ⟨p, e7, fun k hk => absurd hk (Nat.not_lt_zero k)⟩
  · rintro K i h' hi ⟨c1, c2, c3⟩
    refine ⟨sI h' 112 i (-1), ⟨⟨by rw [sI_row _ _ _ (by decide)]; exact c1.1, fun j hj => by rw [sI_row _ _ _ (by decide)]; exact c1.2 j hj⟩, by rw [sI_row _ _ _ (by decide)]; exact c2, fun k hk => ?_⟩, ?_⟩
    · rw [sI1, if_pos rfl]
      by_cases ek : k = i
      · rw [if_pos ek]
      · rw [if_neg ek]
        exact c3 k (by omega)
    · show f_X9_readsAll_15 K 108 0 (nI wd) 0 (nI i) h' = _
      unfold f_X9_readsAll_15
      rw [if_neg (show ¬ (24 : Int32) ≤ nI i from nI_ge (b := 24) hi (by decide)), if_pos (ix_nI hi (by decide)), nI_clamp (by omega)]
      simp only [lt, nI_1]
  · rintro K h' ⟨c1, c2, c3⟩
    show ∃ b, f_X9_readsAll_15 K 108 0 (nI wd) 0 (nI 24) h' = some b ∧ _
    unfold f_X9_readsAll_15
    rw [if_pos (show (24 : Int32) ≤ nI 24 by decide)]
    exact reads9 ht 24 1000 wd 0 0 0 (fun _ => none) h' (by omega) (by omega) hw (by omega) (Nat.zero_le t) (by omega) c1 c2 (fun k hk => c3 k hk)
