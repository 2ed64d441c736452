theorem sI_r (h : Hp) (a i : Nat) (v : Int32) (b : Nat) : (sI h a i v).1 b = if b = a then upd (h.1 b) i v else h.1 b := by
  by_cases e : b = a
  · subst e
    rw [if_pos rfl]
    exact rI_self _ _ _
  · rw [if_neg e]
    exact rI_ne _ _ e
theorem rI_r (h : Hp) (a : Nat) (f : Nat → Int32) (b : Nat) : (rI h a f).1 b = if b = a then f else h.1 b := rfl
/-- rows in R and, of the reference's fields, slots in S, may have changed; the plan's cells not -/
def Chg (R S : List Nat) (h h' : Hp) : Prop := (∀ k, k ∉ R → k ≠ 108 → h'.1 k = h.1 k) ∧ ∀ i, i ∉ S → h'.1 108 i = h.1 108 i
theorem Chg.refl {R S : List Nat} {h : Hp} : Chg R S h h := ⟨fun _ _ _ => rfl, fun _ _ => rfl⟩
theorem Chg.s1 {R S : List Nat} {h h1 : Hp} {a i : Nat} {v : Int32} (H : Chg R S h h1) (ha : a ∈ R ∧ a ≠ 108) : Chg R S h (sI h1 a i v) := ⟨fun k x y => (sI_row h1 i v (fun z => x (by rw [z]; exact ha.1))).trans (H.1 k x y), fun j x => by rw [sI_row h1 i v (Ne.symm ha.2)]; exact H.2 j x⟩
theorem Chg.r1 {R S : List Nat} {h h1 : Hp} {a : Nat} {f : Nat → Int32} (H : Chg R S h h1) (ha : a ∈ R ∧ a ≠ 108) : Chg R S h (rI h1 a f) := ⟨fun k x y => (rI_ne h1 f (fun z => x (by rw [z]; exact ha.1))).trans (H.1 k x y), fun j x => by rw [rI_ne h1 f (Ne.symm ha.2)]; exact H.2 j x⟩
theorem Chg.f1 {R S : List Nat} {h h1 : Hp} {i : Nat} {v : Int32} (H : Chg R S h h1) (hi : i ∈ S) : Chg R S h (sI h1 108 i v) := ⟨fun k x y => (sI_row h1 i v y).trans (H.1 k x y), fun j x => by rw [sI1, if_pos rfl, if_neg (fun z => x (by rw [z]; exact hi))]; exact H.2 j x⟩
theorem Chg.pc {R S : List Nat} {h h' : Hp} (c : Chg R S h h') {p : Nat} {N : Nat → Nat} (a : Pc h p N) (hr : ∀ j, j < 5 → p + j ∉ R ∧ p + j ≠ 108) : Pc h' p N := a.keep (fun j hj => c.1 _ (hr j hj).1 (hr j hj).2)
theorem Chg.po {R S : List Nat} {h h' : Hp} (c : Chg R S h h') {n : Nat} {N : Nat → Nat} (a : Po h n N) (hr : n ∉ R ∧ n ≠ 108) : Po h' n N := a.keep (c.1 _ hr.1 hr.2)
theorem Chg.ri {R S : List Nat} {h h' : Hp} (c : Chg R S h h') (a : RI h) (hr : ∀ k ∈ [0, 6, 7, 8, 9, 10, 110], k ∉ R) (hs : 2 ∉ S) : RI h' := a.keep (by rw [c.1 0 (hr 0 (by decide)) (by decide)]) (c.2 2 hs) (fun j hj => by rcases (show j = 0 ∨ j = 1 ∨ j = 2 ∨ j = 3 ∨ j = 4 by omega) with rfl | rfl | rfl | rfl | rfl <;> exact c.1 _ (hr _ (by decide)) (by decide)) (c.1 110 (hr 110 (by decide)) (by decide))
theorem Chg.rt {R S : List Nat} {h h' : Hp} (c : Chg R S h h') (a : RT h) (hr : ∀ k ∈ [96, 97, 111], k ∉ R) (hs : 6 ∉ S) : RT h' := a.keep (by rw [c.1 96 (hr 96 (by decide)) (by decide)]) (c.2 6 hs) (c.1 97 (hr 97 (by decide)) (by decide)) (c.1 111 (hr 111 (by decide)) (by decide))
theorem Chg.rs {R S : List Nat} {h h' : Hp} (c : Chg R S h h') (a : RS h) (hr : ∀ k ∈ [98, 99, 127], k ∉ R) (hs : 28 ∉ S) : RS h' := a.keep (by rw [c.1 98 (hr 98 (by decide)) (by decide)]) (c.2 28 hs) (c.1 99 (hr 99 (by decide)) (by decide)) (c.1 127 (hr 127 (by decide)) (by decide))
theorem Chg.rr {R S : List Nat} {h h' : Hp} (c : Chg R S h h') (a : RR h) (hr : ∀ k ∈ [102, 103, 104, 105, 106, 134, 135], k ∉ R) : RR h' := a.keep (c.1 106 (hr 106 (by decide)) (by decide)) (c.1 135 (hr 135 (by decide)) (by decide)) (fun r h4 => by rcases (show r = 0 ∨ r = 1 ∨ r = 2 ∨ r = 3 by omega) with rfl | rfl | rfl | rfl <;> exact c.1 _ (hr _ (by decide)) (by decide)) (c.1 134 (hr 134 (by decide)) (by decide))
theorem Chg.rpl {PK : (Nat → Nat) → Hp → Prop} (hPK : PKok PK) {R S : List Nat} {N : Nat → Nat} {h h' : Hp} (c : Chg R S h h') (a : RPl PK N h) (hr : ∀ k ∈ [56, 57, 58, 67, 77, 131], k ∉ R) (hs : 3 ∉ S ∧ 4 ∉ S) : RPl PK N h' := by
  have e := fun k (hk : k ∈ [56, 57, 58, 67, 77, 131]) (h8 : k ≠ 108) => c.1 k (hr k hk) h8
  unfold RPl
  rw [e 56 (by decide) (by decide), c.2 3 hs.1]
  rcases a with a | d
  · exact Or.inl a
  · exact Or.inr (hPK N h h' (by rw [e 56 (by decide) (by decide)]) (c.2 3 hs.1) (by rw [e 56 (by decide) (by decide)]) (c.2 4 hs.2) (e 57 (by decide) (by decide)) (e 131 (by decide) (by decide)) (by rw [e 67 (by decide) (by decide)]) (e 77 (by decide) (by decide)) (by rw [e 58 (by decide) (by decide)]) (by rw [e 58 (by decide) (by decide)]) d)
section SIM
variable {PK : (Nat → Nat) → Hp → Prop}
theorem op_clear (hPK : PKok PK) : Op (Rel PK) (fun h => f_X8_clear 0 h) (fun h => f_X9_clear 108 h) := by
  intro h ⟨N, a1, a2, a3, a4, ⟨t, t1, t2, t3, t4⟩, a6, a7, a8⟩
  have c : Chg [96] [6] h (sI (sI h 96 1 0) 108 6 0) := (Chg.refl.s1 (by decide)).f1 (by decide)
  refine ⟨nI t, sI h 96 1 0, sI (sI h 96 1 0) 108 6 0, ?_, ?_, ⟨N, a1, c.pc a2 (by decide), c.po a3 (by decide), c.ri a4 (by decide) (by decide), ⟨0, by omega, ?_, ?_, fun i hi => by omega⟩, c.rs a6 (by decide) (by decide), c.rr a7 (by decide), c.rpl hPK a8 (by decide) (by decide)⟩⟩
  · show some (h.1 96 1, _) = _
    rw [t2]
  · show some ((sI h 96 1 0).1 108 6, _) = _
    rw [sI_row _ _ _ (by decide), t3]
  · rw [sI_row _ _ _ (by decide), sI1, if_pos rfl, if_pos rfl]
    rfl
  · rw [sI1, if_pos rfl, if_pos rfl]
    rfl
theorem op_tell (z1 z2 : Int32) : Op (Rel PK) (fun h => f_X8_tell 0 z1 z2 h) (fun h => f_X9_tell 108 z1 z2 h) := by
  intro h ⟨N, hR⟩
  have bad : ∀ h : Hp, (z2 < nI 1 ∨ nI 99 < z2) → (if z2 < 1 then (some ((-2 : Int32), h)) else (if 99 < z2 then (some ((-2), h)) else (if z1 ≤ z2 then (lt (sI h (0 + 1) 6 z1) (fun m2 => lt (sI m2 (0 + 1) 7 z2) (fun m3 => (f_X2_forget (0 + 56) m3).bind (fun q4 => some (1, q4.2))))) else (some ((-2), h))))) = some (-2, h) := fun h o => by
    by_cases h1 : z2 < 1
    · rw [if_pos h1]
    · rw [if_neg h1, if_pos (show (99 : Int32) < z2 from o.resolve_left h1)]
  rcases rng z1 99 (by decide) with ⟨a, ha, rfl⟩ | o1
  · rcases rng z2 99 (by decide) with ⟨b, hb, rfl⟩ | o2
    · by_cases hb1 : 1 ≤ b
      · have g1 : ¬ nI b < 1 := by
          rw [show (1 : Int32) = nI 1 from rfl, nI_ltI (by omega) (by omega)]; omega
        have g2 : ¬ 99 < nI b := by
          rw [show (99 : Int32) = nI 99 from rfl, nI_ltI (by omega) (by omega)]; omega
        by_cases hab : a ≤ b
        · have g3 : nI a ≤ nI b := nI_le hab (by omega)
          obtain ⟨a1, a2, a3, a4, a5, a6, a7, a8⟩ := hR
          have c : Chg [1, 56, 109] [3] h (sI (sI (sI (sI (sI (sI (sI h 1 6 (nI a)) 1 7 (nI b)) 56 4 1) 109 42 (nI a)) 108 3 0) 109 43 (nI b)) 108 3 0) := (((((((Chg.refl.s1 (by decide)).s1 (by decide)).s1 (by decide)).s1 (by decide)).f1 (by decide)).s1 (by decide)).f1 (by decide))
          refine ⟨1, sI (sI (sI h 1 6 (nI a)) 1 7 (nI b)) 56 4 1, _, ?_, ?_, ⟨up (up N 42 a) 43 b, ⟨fun i hi => ?_, ?_, ?_⟩, ?_, ?_, c.ri a4 (by decide) (by decide), c.rt a5 (by decide) (by decide), c.rs a6 (by decide) (by decide), c.rr a7 (by decide), Or.inl ⟨?_, ?_⟩⟩⟩
          · unfold f_X8_tell
            simp only [w8i_99 h ha, Option.bind_some, one_ne, if_false, g1, g2, g3, if_true, lt, f_X2_forget]
          · unfold f_X9_tell
            simp only [w9i_0_99 _ (Nat.zero_le a) ha, w9i_1_99 _ hb1 hb, Option.bind_some, one_ne, if_false, g3, if_true, show (42 : Int32) = nI 42 from rfl, show (43 : Int32) = nI 43 from rfl, tells9 _ (show 42 < 44 by omega), tells9 _ (show 43 < 44 by omega)]
          · by_cases e : i = 43
            · subst e
              rw [up_self]
              exact hb
            · rw [up_ne _ _ e]
              by_cases e2 : i = 42
              · subst e2
                rw [up_self]
                exact ha
              · rw [up_ne _ _ e2]
                exact a1.1 i hi
          · rw [up_ne _ _ (by decide), up_self, up_self]
            exact hab
          · rw [up_self]
            exact hb1
          · have q1 := Pc_set (k := 43) (v := b) (by decide) (Pc_set (k := 42) (v := a) (by decide) a2)
            exact q1.keep (fun j hj => by
              have q2 : (1 + j) ≠ 108 ∧ (1 + j) ≠ 109 ∧ (1 + j) ≠ 56 := by omega
              rw [sI_row _ _ _ q2.1, sI_row _ _ _ q2.2.1, sI_row _ _ _ q2.1, sI_row _ _ _ q2.2.1, sI_row _ _ _ q2.2.2]
              rfl)
          · have q1 : Po (sI (sI (sI h 1 6 (nI a)) 1 7 (nI b)) 56 4 1) 109 N := a3.keep (by rw [sI_row _ _ _ (by decide), sI_row _ _ _ (by decide), sI_row _ _ _ (by decide)])
            have q2 := Po_set (k := 42) (v := a) q1
            have q3 : Po (sI (sI (sI (sI (sI h 1 6 (nI a)) 1 7 (nI b)) 56 4 1) 109 42 (nI a)) 108 3 0) 109 (up N 42 a) := q2.keep (by rw [sI_row _ _ _ (by decide)])
            exact (Po_set (k := 43) (v := b) q3).keep (by rw [sI_row _ _ _ (by decide)])
          · rw [sI_row _ _ _ (by decide), sI_row _ _ _ (by decide), sI_row _ _ _ (by decide), sI_row _ _ _ (by decide), sI1, if_pos rfl, if_pos rfl]
          · rw [sI1, if_pos rfl, if_pos rfl]
        · have g3 : ¬ nI a ≤ nI b := nI_ge (by omega) (by omega)
          refine same_op (r := -2) ⟨N, hR⟩ ?_ ?_
          · unfold f_X8_tell
            simp only [w8i_99 h ha, Option.bind_some, one_ne, if_false, g1, g2, g3]
          · unfold f_X9_tell
            simp only [w9i_0_99 _ (Nat.zero_le a) ha, w9i_1_99 _ hb1 hb, Option.bind_some, one_ne, if_false, g3]
      · have hb0 : b = 0 := by omega
        subst hb0
        have o3 : nI 0 < nI 1 ∨ nI 99 < nI 0 := Or.inl (nI_lt (by decide) (by decide))
        refine same_op (r := -2) ⟨N, hR⟩ ?_ ?_
        · unfold f_X8_tell
          simp only [w8i_99 h ha, Option.bind_some, one_ne, if_false]
          exact bad h o3
        · unfold f_X9_tell
          simp only [w9i_0_99 _ (Nat.zero_le a) ha, w9o_1_99 _ o3, Option.bind_some, one_ne, if_false, if_true]
    · have o3 : z2 < nI 1 ∨ nI 99 < z2 := by
        rcases o2 with o2 | o2
        · exact Or.inl (Int32.lt_trans o2 (by decide))
        · exact Or.inr o2
      refine same_op (r := -2) ⟨N, hR⟩ ?_ ?_
      · unfold f_X8_tell
        simp only [w8i_99 h ha, Option.bind_some, one_ne, if_false]
        exact bad h o3
      · unfold f_X9_tell
        simp only [w9i_0_99 _ (Nat.zero_le a) ha, w9o_1_99 _ o3, Option.bind_some, one_ne, if_false, if_true]
  · refine same_op (r := -2) ⟨N, hR⟩ ?_ ?_
    · unfold f_X8_tell
      simp only [w8o_99 h o1, Option.bind_some, if_true]
    · unfold f_X9_tell
      simp only [w9o_0_99 _ o1, Option.bind_some, if_true]
end SIM
section SIM2
variable {PK : (Nat → Nat) → Hp → Prop}
theorem op_feed (hPK : PKok PK) (z1 : Int32) : Op (Rel PK) (fun h => f_X8_feed 0 z1 h) (fun h => f_X9_feed 108 z1 h) := by
  intro h ⟨N, hR⟩
  by_cases o1 : z1 < 1
  · refine same_op (r := -2) ⟨N, hR⟩ ?_ ?_
    · unfold f_X8_feed
      rw [if_pos o1]
    · unfold f_X9_feed
      simp only [w9o_1_127 h (Or.inl o1), Option.bind_some, if_true]
  · by_cases o2 : z1 ≤ 127
    · have hz : ∃ j, 1 ≤ j ∧ j ≤ 127 ∧ z1 = nI j := by
        rcases rng z1 127 (by decide) with ⟨j, hj, rfl⟩ | o3
        · refine ⟨j, ?_, hj, rfl⟩
          rcases Nat.eq_zero_or_pos j with rfl | q
          · exact absurd (show nI 0 < 1 by decide) o1
          · exact q
        · rcases o3 with o3 | o3
          · exact absurd (Int32.lt_trans o3 (by decide)) o1
          · exact absurd o3 (Int32.not_lt.mpr o2)
      obtain ⟨j, hj1, hj2, rfl⟩ := hz
      obtain ⟨a1, a2, a3, a4, ⟨t, t1, t2, t3, t4⟩, a6, a7, a8⟩ := hR
      have e0 : f_X8_feed 0 (nI j) h = (f_X7_takeByte 96 (nI j) h).bind (fun q1 => if q1.1 = 0 then (some ((-4), q1.2)) else (some (q1.2.1 96 1, q1.2))) := by
        unfold f_X8_feed
        rw [if_neg o1, if_pos o2]
      by_cases ht : t < 120
      · have c : Chg [96, 97, 111] [6] h (sI (sI (sI (sI h 96 1 (nI (t + 1))) 97 t (nI j)) 111 t (nI j)) 108 6 (nI (t + 1))) := (((Chg.refl.s1 (by decide)).s1 (by decide)).s1 (by decide)).f1 (by decide)
        have g1 : ¬ nI t < 0 := nI_pos (by omega)
        have g2 : nI t < 120 := nI_lt ht (by decide)
        have g3 : ix (nI t) 120 = true := ix_nI ht (by decide)
        have g4 : ¬ nI t = 120 := by
          rw [show (120 : Int32) = nI 120 from rfl, nI_eq (by omega) (by omega)]; omega
        refine ⟨nI (t + 1), sI (sI h 96 1 (nI (t + 1))) 97 t (nI j), _, ?_, ?_, ⟨N, a1, c.pc a2 (by decide), c.po a3 (by decide), c.ri a4 (by decide) (by decide), ⟨t + 1, by omega, ?_, ?_, fun i hi => ?_⟩, c.rs a6 (by decide) (by decide), c.rr a7 (by decide), c.rpl hPK a8 (by decide) (by decide)⟩⟩
        · dsimp only
          rw [e0]
          unfold f_X7_takeByte
          rw [t2, if_neg g1, if_pos g2]
          simp only [lt, g3, if_true, nI_clamp (show t < 2 ^ 31 by omega), nI_1]
          show some ((sI (sI h 96 1 (nI (t + 1))) 97 t (nI j)).1 96 1, _) = _
          rw [sI_row _ _ _ (by decide), sI1, if_pos rfl, if_pos rfl]
        · dsimp only
          unfold f_X9_feed
          have e6 : (sI (sI h 96 1 (nI (t + 1))) 97 t (nI j)).1 108 6 = nI t := by rw [sI_row _ _ _ (by decide), sI_row _ _ _ (by decide), t3]
          simp only [w9i_1_127 _ hj1 hj2, Option.bind_some, one_ne, if_false, e6, g4, g3, if_true, lt, nI_clamp (show t < 2 ^ 31 by omega)]
          simp [sI1, t3, nI_1]
        · rw [sI_row _ _ _ (by decide), sI_row _ _ _ (by decide), sI_row _ _ _ (by decide), sI1, if_pos rfl, if_pos rfl]
        · rw [sI1, if_pos rfl, if_pos rfl]
        · simp [sI1]
          by_cases e : i = t
          · rw [if_pos e, if_pos e]
          · rw [if_neg e, if_neg e]
            exact t4 i (by omega)
      · have ht : t = 120 := by omega
        subst ht
        refine same_op (r := -4) ⟨N, a1, a2, a3, a4, ⟨120, t1, t2, t3, t4⟩, a6, a7, a8⟩ ?_ ?_
        · rw [e0]
          unfold f_X7_takeByte
          rw [t2, if_neg (by decide), if_neg (by decide)]
          rfl
        · unfold f_X9_feed
          simp only [w9i_1_127 _ hj1 hj2, Option.bind_some, one_ne, if_false, t3]
          rfl
    · refine same_op (r := -2) ⟨N, hR⟩ ?_ ?_
      · unfold f_X8_feed
        rw [if_neg o1, if_neg o2]
      · unfold f_X9_feed
        simp only [w9o_1_127 h (Or.inr (Int32.not_le.mp o2)), Option.bind_some, if_true]
/-- within(x, 0, n - 1) of the reference, n a number of places -/
theorem w9_sub {x : Int32} {n : Nat} (h : Hp) (hn : n < 2 ^ 30) : f_X9_within (Int32.toInt64 x) 0 (Int32.toInt64 (nI n - 1)) h = some (if ix x n = true then 1 else 0, h) := by
  have e1 : (nI n - 1).toInt = (n : Int) - 1 := pk_sub_toInt (b := 1) hn (by decide)
  unfold f_X9_within
  have l1 : lg_cmp (Int32.toInt64 x) 0 < 0 ↔ x < 0 := by
    rw [lg_lt, show (0 : Int64) = Int32.toInt64 0 from rfl, i64_lt]
  have l2 : 0 < lg_cmp (Int32.toInt64 x) (Int32.toInt64 (nI n - 1)) ↔ nI n - 1 < x := by
    rw [lg_gt, i64_lt]
  by_cases h1 : x < 0
  · rw [if_pos (l1.mpr h1)]
    have : ix x n = false := by
      unfold ix
      simp [h1]
    rw [this]
    rfl
  · rw [if_neg (fun z => h1 (l1.mp z))]
    obtain ⟨j, hj, rfl⟩ := nI_of h1
    by_cases h2 : j < n
    · rw [if_neg (fun z => by
        have := l2.mp z
        rw [Int32.lt_iff_toInt_lt, e1, nI_toInt hj] at this
        omega), ix_nI h2 (by omega)]
      rfl
    · rw [if_pos (l2.mpr (by rw [Int32.lt_iff_toInt_lt, e1, nI_toInt hj]; omega))]
      have : ix (nI j) n = false := by
        unfold ix
        rw [nI_clamp hj]
        simp [h2]
      rw [this]
      rfl
theorem ix_iff {x : Int32} {n : Nat} (hn : n < 2 ^ 31) : ix x n = true ↔ ∃ j, j < n ∧ x = nI j := by
  constructor
  · intro h
    exact vp_in_of (ix_in h) hn
  · rintro ⟨j, hj, rfl⟩
    exact ix_nI hj hn
theorem op_paper (z1 : Int32) : Op (Rel PK) (fun h => f_X8_paper 0 z1 h) (fun h => f_X9_paper 108 z1 h) := by
  intro h ⟨N, hR⟩
  obtain ⟨a1, a2, a3, a4, a5, ⟨t, t1, t2, t3, t4⟩, a7, a8⟩ := id hR
  by_cases hx : ix z1 t = true
  · obtain ⟨j, hj, rfl⟩ := (ix_iff (by omega)).mp hx
    refine same_op (r := h.1 99 j) ⟨N, hR⟩ ?_ ?_
    · unfold f_X8_paper
      rw [if_neg (nI_pos (by omega)), show h.1 (0 + 98) 1 = nI t from t2, if_pos (nI_lt hj (by omega)), if_pos (ix_nI (by omega) (by decide)), nI_clamp (by omega)]
    · unfold f_X9_paper
      rw [t3, w9_sub h (by omega), hx]
      simp only [Option.bind_some, if_true, one_ne, if_false, ix_nI (show j < 96 by omega) (by decide : 96 < 2 ^ 31), nI_clamp (show j < 2 ^ 31 by omega)]
      rw [t4 j hj]
  · refine same_op (r := -1) ⟨N, hR⟩ ?_ ?_
    · unfold f_X8_paper f_X8_paper_15
      by_cases h1 : z1 < 0
      · rw [if_pos h1]
      · rw [if_neg h1, show h.1 (0 + 98) 1 = nI t from t2, if_neg]
        intro h2
        obtain ⟨j, hj, rfl⟩ := nI_of h1
        rw [nI_ltI hj (by omega)] at h2
        exact hx (ix_nI h2 (by omega))
    · unfold f_X9_paper
      rw [t3, w9_sub h (by omega), if_neg hx]
      simp only [Option.bind_some, if_true]
end SIM2
