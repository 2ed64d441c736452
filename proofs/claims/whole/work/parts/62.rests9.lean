theorem lN_m1 {n : Nat} (h : n < 2 ^ 63) : ¬ lN n = -1 := fun z => by
  have e := pk_lT h
  rw [z] at e
  have : (-1 : Int64).toInt = -1 := by decide
  omega
theorem succ_mod {n c : Nat} (h : (n + 1) % c ≠ 0) : (n + 1) % c = n % c + 1 := by
  rcases Nat.eq_zero_or_pos c with h0 | h0
  · subst h0
    rw [Nat.mod_zero, Nat.mod_zero]
  · have r := Nat.mod_lt n h0
    have e := Nat.div_add_mod n c
    by_cases q : n % c + 1 < c
    · have : n + 1 = c * (n / c) + (n % c + 1) := by omega
      rw [this, Nat.mul_add_mod, Nat.mod_eq_of_lt q]
    · exfalso
      apply h
      have : n + 1 = c * (n / c) + c := by omega
      rw [this, Nat.mul_add_mod, Nat.mod_self]
theorem great9 {h : Hp} {E Z : Nat → Bool} {R : Nat → Nat} (bR : ∀ k, k < 6 → R k < 2 ^ 63) (r1 : ∀ k, k < 6 → h.2 118 k = if E k = true then lN (R k) else -1) (r2 : ∀ k, k < 6 → h.1 119 k = if Z k = true then 1 else 0) : f_X9_greatestRest 108 h = some (bi (fu (bstS (fun k => E k && !Z k) (fun k j => sgn (R k) (R j))) 6 none), h) := by
  unfold f_X9_greatestRest
  refine lp_seq (F := Nat → Int32 → Int32 → Hp → Option (Int32 × Hp)) (bot := fun _ _ _ _ => none) (G := f_X9_greatestRest_4) (fun K i (s : Option Nat) => K 108 (bi s) (nI i) h) 6 (fun i => fu (bstS (fun k => E k && !Z k) (fun k j => sgn (R k) (R j))) i none) (some (bi (fu (bstS (fun k => E k && !Z k) (fun k j => sgn (R k) (R j))) 6 none), h)) ?_ ?_ 1000 0 (by omega) (by omega)
  · intro K i hi
    show f_X9_greatestRest_4 K 108 (bi (fu (bstS (fun k => E k && !Z k) (fun k j => sgn (R k) (R j))) i none)) (nI i) h = K 108 (bi (bstS (fun k => E k && !Z k) (fun k j => sgn (R k) (R j)) i (fu (bstS (fun k => E k && !Z k) (fun k j => sgn (R k) (R j))) i none))) (nI (i + 1)) h
    generalize hg : fu (bstS (fun k => E k && !Z k) (fun k j => sgn (R k) (R j))) i none = bst
    unfold f_X9_greatestRest_4 f_X9_greatestRest_53 f_X9_greatestRest_55 bstS
    rw [if_neg (ge6 hi), if_pos (ix6 hi), cl6' hi, show h.2 (108 + 10) i = _ from r1 i hi, show h.1 (108 + 11) i = _ from r2 i hi]
    simp only [lt, nI_1]
    by_cases hE : E i = true
    · rw [if_pos hE, if_neg (by rw [lg_eq0]; exact lN_m1 (bR i hi)), if_pos (ix6 hi)]
      by_cases hZ : Z i = true
      · rw [if_pos hZ, if_neg one_ne, if_neg (by simp [hZ])]
      · rw [if_neg hZ, if_pos (show (0 : Int32) = 0 from rfl), if_pos (show (E i && !Z i) = true by simp [hE, hZ])]
        cases bst with
        | none =>
          rw [if_pos (show bi none = -1 from rfl)]
          rfl
        | some j =>
          have hj := bst_some hg
          have hj6 : j < 6 := by omega
          have hEj : E j = true := by
            have := hj.2
            rw [Bool.and_eq_true] at this
            exact this.1
          have hx : bi (some j) = nI j := rfl
          rw [hx, if_neg (show ¬ nI j = -1 from fun z => nI_pos (n := j) (by omega) (by rw [z]; decide)), if_pos (ix6 hi), if_pos (ix6 hj6), cl6' hj6, show h.2 (108 + 10) j = _ from r1 j hj6, if_pos hEj]
          dsimp only
          by_cases hs : sgn (R i) (R j) ≤ 0
          · have := (sgn_cases (R i) (R j)).2.2.mp hs
            rw [if_pos hs, if_pos (by rw [lg_le, pk_lLT (bR _ hj6) (bR _ hi)]; exact this)]
            rfl
          · rw [if_neg hs, if_neg (by
              rw [lg_le, pk_lLT (bR _ hj6) (bR _ hi)]
              exact fun z => hs ((sgn_cases (R i) (R j)).2.2.mpr z))]
            rfl
    · rw [if_neg hE, if_pos (lg_eq0.mpr rfl), if_neg (by simp [hE])]
  · intro K
    show f_X9_greatestRest_4 K 108 _ (nI 6) h = _
    unfold f_X9_greatestRest_4
    rw [if_pos (show (6 : Int32) ≤ nI 6 by decide)]
theorem reset9 {rk : Nat → Nat} {c n L : Nat} (h0 : 0 < c) (hc : c ≤ 6) (hn : n < 1000) {h : Hp} (hp : n % c ≠ 0 → ∀ k, k < 6 → h.1 119 k = if pas rk (n % c) k = true then 1 else 0) (K : Nat → Int32 → Int32 → Int32 → Hp → Option (Int32 × Hp)) : ∃ h', lp (F := Nat → Int32 → Int32 → Int32 → Int32 → Hp → Option (Int32 × Hp)) (fun _ _ _ _ _ _ => none) (f_X9_givesByRests_197 K) 1000 108 (nI L) (nI c) (nI n) 0 h = f_X9_givesByRests_226 K 108 (nI L) (nI c) (nI n) h' ∧ (∀ k, k ≠ 119 → h'.1 k = h.1 k) ∧ h'.2 = h.2 ∧ ∀ k, k < 6 → h'.1 119 k = if pas rk (n % c) k = true then 1 else 0 := by
  have er : nI n - nI n / nI c * nI c = nI (n % c) := pk_rem (by omega) h0 (by omega)
  have hm := Nat.mod_lt n h0
  by_cases hz : n % c = 0
  · have hS : ∀ i k, i ≤ 6 → ((k ≠ 119 → (fu (fun j (x : Hp) => sI x 119 j 0) i h).1 k = h.1 k) ∧ (fu (fun j (x : Hp) => sI x 119 j 0) i h).2 = h.2 ∧ ∀ j, j < i → (fu (fun j (x : Hp) => sI x 119 j 0) i h).1 119 j = 0) := by
      intro i
      induction i with
      | zero => exact fun k _ => ⟨fun _ => rfl, rfl, fun j hj => by omega⟩
      | succ i ih =>
        intro k hi
        show ((k ≠ 119 → (sI (fu (fun j (x : Hp) => sI x 119 j 0) i h) 119 i 0).1 k = h.1 k) ∧ (sI (fu (fun j (x : Hp) => sI x 119 j 0) i h) 119 i 0).2 = h.2 ∧ ∀ j, j < i + 1 → (sI (fu (fun j (x : Hp) => sI x 119 j 0) i h) 119 i 0).1 119 j = 0)
        refine ⟨fun hk => by rw [sI_row _ _ _ hk]; exact (ih k (by omega)).1 hk, (ih k (by omega)).2.1, fun j hj => ?_⟩
        rw [sI1, if_pos rfl]
        by_cases e : j = i
        · rw [if_pos e]
        · rw [if_neg e]
          exact (ih k (by omega)).2.2 j (by omega)
    refine ⟨fu (fun j (x : Hp) => sI x 119 j 0) 6 h, ?_, fun k hk => (hS 6 k (by omega)).1 hk, (hS 6 0 (by omega)).2.1, fun k hk => ?_⟩
    · refine lp_seq (F := Nat → Int32 → Int32 → Int32 → Int32 → Hp → Option (Int32 × Hp)) (bot := fun _ _ _ _ _ _ => none) (G := f_X9_givesByRests_197 K) (fun K' i (x : Hp) => K' 108 (nI L) (nI c) (nI n) (nI i) x) 6 (fun i => fu (fun j (x : Hp) => sI x 119 j 0) i h) _ ?_ ?_ 1000 0 (by omega) (by omega)
      · intro K' i hi
        show f_X9_givesByRests_197 K K' 108 (nI L) (nI c) (nI n) (nI i) (fu (fun j (x : Hp) => sI x 119 j 0) i h) = K' 108 (nI L) (nI c) (nI n) (nI (i + 1)) (sI (fu (fun j (x : Hp) => sI x 119 j 0) i h) 119 i 0)
        unfold f_X9_givesByRests_197
        rw [if_neg (nI_ne0 h0 (by omega)), er, if_pos (by rw [hz]; rfl), if_neg (ge6 hi), if_pos (ix6 hi), cl6' hi]
        simp only [lt, nI_1]
        rfl
      · intro K'
        show f_X9_givesByRests_197 K K' 108 (nI L) (nI c) (nI n) (nI 6) (fu (fun j (x : Hp) => sI x 119 j 0) 6 h) = _
        unfold f_X9_givesByRests_197
        rw [if_neg (nI_ne0 h0 (by omega)), er, if_pos (by rw [hz]; rfl), if_pos (show (6 : Int32) ≤ nI 6 by decide)]
    · rw [hz, (hS 6 0 (by omega)).2.2 k hk]
      rfl
  · refine ⟨h, ?_, fun _ _ => rfl, rfl, hp hz⟩
    show f_X9_givesByRests_197 K _ 108 (nI L) (nI c) (nI n) 0 h = _
    unfold f_X9_givesByRests_197
    rw [if_neg (nI_ne0 h0 (by omega)), er, if_neg (nI_ne0 (by omega) (by omega))]
theorem giveR9 {P : Nat → Bool} {W F : Nat → Nat} (hP0 : ∀ k, k < 6 → P k = false → W k = 0 ∧ F k = 0) (hP1 : ∀ k, k < 6 → P k = true → 0 < W k) (bW : ∀ k, k < 6 → W k ≤ 2400000) (bF : ∀ k, k < 6 → F k ≤ 100) {h : Hp} (hE : RfC h P W F) (h14 : h.1 108 14 = 0) (h15 : h.1 108 15 = 0) {H : Nat} (hH : H ≤ 60) : ∃ b, f_X9_givesByRests 108 (nI H) h = some b ∧ ((okR P W F H ∧ b.1 = 1 ∧ RfS P W F b.2 (gsR P W F H)) ∨ (¬ okR P W F H ∧ b.1 = 0)) := by
  have bA := sF_bd bW 6 (by omega)
  have h0k : ∀ k, k < 6 → P k = true → 0 < sF W 6 := fun k hk hp => by
    have := hP1 k hk hp
    have := sF_le (F := W) hk
    omega
  have s0k : ∀ k, k < 6 → P k = false → sh0 W F H k = 0 := fun k hk hp => by
    have := hP0 k hk hp
    unfold sh0 cutN
    rw [this.1, this.2, Nat.zero_mul, Nat.zero_div]
    rfl
  have bs : ∀ k, k < 6 → sh0 W F H k ≤ 100 := fun k hk => by
    cases hp : P k with
    | false =>
      rw [s0k k hk hp]
      omega
    | true => exact sh0_le hk (h0k k hk hp) hH (bF k hk)
  have bS := sF_bd (f := sh0 W F H) (B := 100) bs
  have bR : ∀ k, k < 6 → rstN W H k < 2 ^ 63 := fun k hk => by
    have m : W k * H ≤ 2400000 * 60 := Nat.mul_le_mul (bW k hk) hH
    have := Nat.mod_le (W k * H) (sF W 6)
    unfold rstN
    omega
  unfold f_X9_givesByRests
  refine lp_inv (F := Nat → Int32 → Int64 → Int32 → Hp → Option (Int32 × Hp)) (bot := fun _ _ _ _ _ => none) (G := f_X9_givesByRests_5) (fun K i (_ : Unit) => K 108 (nI H) (lN (sF W i)) (nI i) h) 6 (fun _ _ => True) _ ?_ ?_ 1000 0 () (by omega) (by omega) trivial
  · intro K i _ hi _
    refine ⟨(), trivial, ?_⟩
    show f_X9_givesByRests_5 K 108 (nI H) (lN (sF W i)) (nI i) h = _
    unfold f_X9_givesByRests_5
    have := bW i hi
    rw [if_neg (ge6 hi), if_pos (ix6 hi), cl6' hi, show h.1 (108 + 6) i = _ from (hE i hi).2.1, nI_l (by omega), lN_add, nI_1]
    rfl
  · intro K _ _
    show ∃ b, f_X9_givesByRests_5 K 108 (nI H) (lN (sF W 6)) (nI 6) h = some b ∧ _
    unfold f_X9_givesByRests_5
    rw [if_pos (show (6 : Int32) ≤ nI 6 by decide)]
    have e0 : nI H - nI (sF (sh0 W F H) 0) = nI H := pk_sub (a := H) (b := 0) (Nat.zero_le H)
    suffices hh : ∃ b, lp (F := Nat → Int32 → Int64 → Int32 → Int32 → Int32 → Hp → Option (Int32 × Hp)) (fun _ _ _ _ _ _ _ => none) f_X9_givesByRests_38 1000 108 (nI H) (lN (sF W 6)) (nI H - nI (sF (sh0 W F H) 0)) (nI 0) (nI 0) h = some b ∧ ((okR P W F H ∧ b.1 = 1 ∧ RfS P W F b.2 (gsR P W F H)) ∨ (¬ okR P W F H ∧ b.1 = 0)) by
      rw [e0] at hh
      exact hh
    refine lp_inv (F := Nat → Int32 → Int64 → Int32 → Int32 → Int32 → Hp → Option (Int32 × Hp)) (bot := fun _ _ _ _ _ _ _ => none) (G := f_X9_givesByRests_38) (fun K i (h : Hp) => K 108 (nI H) (lN (sF W 6)) (nI H - nI (sF (sh0 W F H) i)) (nI (rkd (rstN W H) (elg P W F H) i).2) (nI i) h) 6 (fun i h => RfC h P W F ∧ h.1 108 14 = 0 ∧ h.1 108 15 = 0 ∧ ∀ k, k < i → h.2 118 k = (if elg P W F H k = true then lN (rstN W H k) else -1) ∧ h.1 116 k = nI (sh0 W F H k)) _ ?_ ?_ 1000 0 h (by omega) (by omega) ⟨hE, h14, h15, fun k hk => by omega⟩
    · rintro K i h hi ⟨c1, c2, c3, d1⟩
      obtain ⟨r1, r2, r3⟩ := c1 i hi
      have hb1 : W i * H ≤ 2400000 * 60 := Nat.mul_le_mul (bW i hi) hH
      have hb2 := bW i hi
      have hFi := bF i hi
      have er : rkd (rstN W H) (elg P W F H) (i + 1) = rkS (rstN W H) (elg P W F H) i (rkd (rstN W H) (elg P W F H) i) := rfl
      have es : sF (sh0 W F H) (i + 1) = sF (sh0 W F H) i + sh0 W F H i := rfl
      -- what any such numbers keep
      have hk : ∀ h2 : Hp, (∀ k, k ≠ 116 → h2.1 k = h.1 k) → (∀ k, k < 6 → k ≠ i → h2.1 116 k = h.1 116 k) → (∀ k, k < 6 → k ≠ i → h2.2 118 k = h.2 118 k) → h2.1 116 i = nI (sh0 W F H i) → h2.2 118 i = (if elg P W F H i = true then lN (rstN W H i) else -1) → (RfC h2 P W F ∧ h2.1 108 14 = 0 ∧ h2.1 108 15 = 0 ∧ ∀ k, k < i + 1 → h2.2 118 k = (if elg P W F H k = true then lN (rstN W H k) else -1) ∧ h2.1 116 k = nI (sh0 W F H k)) := fun h2 a1 a2 a3 a4 a5 => by
        refine ⟨fun k hk => ?_, ?_, ?_, fun k hk => ?_⟩
        · rw [a1 113 (by decide), a1 114 (by decide), a1 115 (by decide)]
          exact c1 k hk
        · rw [a1 108 (by decide)]; exact c2
        · rw [a1 108 (by decide)]; exact c3
        · by_cases ek : k = i
          · rw [ek]
            exact ⟨a5, a4⟩
          · rw [a2 k (by omega) ek, a3 k (by omega) ek]
            exact d1 k (by omega)
      cases hp : P i with
      | false =>
        have hel : elg P W F H i = false := by unfold elg; simp [hp]
        have er2 : rkd (rstN W H) (elg P W F H) (i + 1) = rkd (rstN W H) (elg P W F H) i := by
          rw [er]
          exact if_neg (by rw [hel]; decide)
        refine ⟨sL (sI h 116 i 0) 118 i (-1), hk _ (fun k hk => ?_) (fun k hk hn => ?_) (fun k hk hn => ?_) ?_ ?_, ?_⟩
        · rw [sL1, sI_row _ _ _ hk]
        · rw [sL1, sI1, if_pos rfl, if_neg hn]
        · rw [sL2, if_pos rfl, if_neg hn, sI_2]
        · rw [sL1, sI1, if_pos rfl, if_pos rfl, s0k i hi hp]
          rfl
        · rw [sL2, if_pos rfl, if_pos rfl, hel]
          rfl
        · show f_X9_givesByRests_38 K 108 (nI H) (lN (sF W 6)) (nI H - nI (sF (sh0 W F H) i)) (nI (rkd (rstN W H) (elg P W F H) i).2) (nI i) h = _
          rw [er2, es, s0k i hi hp, Nat.add_zero]
          unfold f_X9_givesByRests_38 f_X9_givesByRests_161
          rw [if_neg (ge6 hi), if_pos (ix6 hi), cl6' hi]
          simp only [lt]
          rw [if_pos (ix6 hi), if_pos (ix6 hi), sL1, sI_row _ _ _ (by decide), show h.1 (108 + 5) i = _ from r1, hp, if_pos (show (if false = true then (1 : Int32) else 0) = 0 from rfl), nI_1]
      | true =>
        have h0 := h0k i hi hp
        have hcut := cut_le (W := W) (H := H) hi h0
        have z : ¬ lN (sF W 6) = 0 := by rw [lN_e0 (by omega)]; omega
        have ecut : Int32.toInt64 (nI (W i)) * Int32.toInt64 (nI H) / lN (sF W 6) = lN (cutN W H i) := by
          rw [nI_l (by omega), nI_l (by omega), lN_mul, pk_lDiv (by omega) h0 (by omega)]
          rfl
        have erst : Int32.toInt64 (nI (W i)) * Int32.toInt64 (nI H) - Int32.toInt64 (nI (W i)) * Int32.toInt64 (nI H) / lN (sF W 6) * lN (sF W 6) = lN (rstN W H i) := by
          rw [nI_l (by omega), nI_l (by omega), lN_mul, pk_lRem (by omega) h0 (by omega)]
          rfl
        have esh : Int64.toInt32 (if Int32.toInt64 (nI (F i)) < lN (cutN W H i) then lN (cutN W H i) else Int32.toInt64 (nI (F i))) = nI (sh0 W F H i) := by
          rw [nI_l (by omega)]
          unfold sh0
          by_cases q : F i < cutN W H i
          · rw [if_pos q, if_pos (by rw [lN_lt (by omega) (by omega)]; exact q), lN_i]
          · rw [if_neg q, if_neg (by rw [lN_lt (by omega) (by omega)]; exact q), lN_i]
        have ex : ∀ h3 : Hp, h3 = sI (sL (sI h 116 i 0) 118 i (-1)) 116 i (nI (sh0 W F H i)) → f_X9_givesByRests_38 K 108 (nI H) (lN (sF W 6)) (nI H - nI (sF (sh0 W F H) i)) (nI (rkd (rstN W H) (elg P W F H) i).2) (nI i) h = (if F i ≤ cutN W H i then K 108 (nI H) (lN (sF W 6)) (nI H - nI (sF (sh0 W F H) (i + 1))) (nI ((rkd (rstN W H) (elg P W F H) i).2 + 1)) (nI (i + 1)) (sL h3 118 i (lN (rstN W H i))) else K 108 (nI H) (lN (sF W 6)) (nI H - nI (sF (sh0 W F H) (i + 1))) (nI (rkd (rstN W H) (elg P W F H) i).2) (nI (i + 1)) h3) := fun h3 e3 => by
          have g5 : h3.1 (108 + 7) i = nI (F i) := by rw [e3, sI_row _ _ _ (by decide), sL1, sI_row _ _ _ (by decide)]; exact r3
          have g6 : h3.1 (108 + 6) i = nI (W i) := by rw [e3, sI_row _ _ _ (by decide), sL1, sI_row _ _ _ (by decide)]; exact r2
          have g8 : h3.1 (108 + 8) i = nI (sh0 W F H i) := by rw [e3, sI1, if_pos rfl, if_pos rfl]
          have y5 : (sL (sI h (108 + 8) i 0) (108 + 10) i (-1)).1 (108 + 5) i = 1 := by rw [sL1, sI_row _ _ _ (by decide), show h.1 (108 + 5) i = _ from r1, hp]; rfl
          have y6 : (sL (sI h (108 + 8) i 0) (108 + 10) i (-1)).1 (108 + 6) i = nI (W i) := by rw [sL1, sI_row _ _ _ (by decide)]; exact r2
          have y7 : (sL (sI h (108 + 8) i 0) (108 + 10) i (-1)).1 (108 + 7) i = nI (F i) := by rw [sL1, sI_row _ _ _ (by decide)]; exact r3
          rw [es]
          unfold f_X9_givesByRests_38 f_X9_givesByRests_161
          rw [if_neg (ge6 hi), if_pos (ix6 hi), cl6' hi]
          simp only [lt]
          rw [if_pos (ix6 hi), if_pos (ix6 hi), y5, if_neg one_ne, if_pos (ix6 hi), if_neg z, y6, ecut, if_pos (ix6 hi), if_pos (ix6 hi), y7, esh, show sI (sL (sI h (108 + 8) i 0) (108 + 10) i (-1)) (108 + 8) i (nI (sh0 W F H i)) = h3 from e3.symm, if_pos (ix6 hi), g8, sub_sub32, if_pos (ix6 hi), g5, g6, erst, nI_1]
          by_cases q : F i ≤ cutN W H i
          · rw [if_pos q, if_neg (by rw [lg_gt, nI_l (by omega), pk_lLT (by omega) (by omega)]; omega), if_pos (ix6 hi), if_neg z, if_pos (ix6 hi), nI_1]
          · rw [if_neg q, if_pos (by rw [lg_gt, nI_l (by omega), pk_lLT (by omega) (by omega)]; omega)]
        have ex := ex _ rfl
        by_cases q : F i ≤ cutN W H i
        · rw [if_pos q] at ex
          have hel : elg P W F H i = true := by unfold elg; simp [hp, q]
          have er2 : (rkd (rstN W H) (elg P W F H) (i + 1)).2 = (rkd (rstN W H) (elg P W F H) i).2 + 1 := by
            rw [er]
            unfold rkS
            rw [if_pos hel]
          refine ⟨sL (sI (sL (sI h 116 i 0) 118 i (-1)) 116 i (nI (sh0 W F H i))) 118 i (lN (rstN W H i)), hk _ (fun k hk => ?_) (fun k hk hn => ?_) (fun k hk hn => ?_) ?_ ?_, by rw [er2]; exact ex⟩
          · rw [sL1, sI_row _ _ _ hk, sL1, sI_row _ _ _ hk]
          · rw [sL1, sI1, if_pos rfl, if_neg hn, sL1, sI1, if_pos rfl, if_neg hn]
          · rw [sL2, if_pos rfl, if_neg hn, sI_2, sL2, if_pos rfl, if_neg hn, sI_2]
          · rw [sL1, sI1, if_pos rfl, if_pos rfl]
          · rw [sL2, if_pos rfl, if_pos rfl, if_pos hel]
        · rw [if_neg q] at ex
          have hel : elg P W F H i = false := by unfold elg; simp [q]
          have er2 : rkd (rstN W H) (elg P W F H) (i + 1) = rkd (rstN W H) (elg P W F H) i := by
            rw [er]
            exact if_neg (by rw [hel]; decide)
          refine ⟨sI (sL (sI h 116 i 0) 118 i (-1)) 116 i (nI (sh0 W F H i)), hk _ (fun k hk => ?_) (fun k hk hn => ?_) (fun k hk hn => ?_) ?_ ?_, by rw [er2]; exact ex⟩
          · rw [sI_row _ _ _ hk, sL1, sI_row _ _ _ hk]
          · rw [sI1, if_pos rfl, if_neg hn, sL1, sI1, if_pos rfl, if_neg hn]
          · rw [sI_2, sL2, if_pos rfl, if_neg hn, sI_2]
          · rw [sI1, if_pos rfl, if_pos rfl]
          · rw [sI_2, sL2, if_pos rfl, if_pos rfl, hel]
            rfl
    · rintro K h ⟨c1, c2, c3, d1⟩
      have hc := (rkd_ok (rstN W H) (elg P W F H) 6).1
      have hlt : ∀ t, t < (rkd (rstN W H) (elg P W F H) 6).2 → (rkd (rstN W H) (elg P W F H) 6).1 t < 6 := fun t ht => rkd_lt ht
      have hgr : ∀ m, m < (rkd (rstN W H) (elg P W F H) 6).2 → fu (bstS (fun k => elg P W F H k && !pas (rkd (rstN W H) (elg P W F H) 6).1 m k) (fun k j => sgn (rstN W H k) (rstN W H j))) 6 none = some ((rkd (rstN W H) (elg P W F H) 6).1 m) := fun m hm => great_rk hm
      have bS6 := bS 6 (by omega)
      show ∃ b, f_X9_givesByRests_38 K 108 (nI H) (lN (sF W 6)) (nI H - nI (sF (sh0 W F H) 6)) (nI (rkd (rstN W H) (elg P W F H) 6).2) (nI 6) h = some b ∧ _
      unfold gsR okR
      generalize rkd (rstN W H) (elg P W F H) 6 = q at hc hlt hgr ⊢
      obtain ⟨rk, c⟩ := q
      dsimp only at hc hlt hgr ⊢
      unfold f_X9_givesByRests_38
      rw [if_pos (show (6 : Int32) ≤ nI 6 by decide)]
      by_cases hS : sF (sh0 W F H) 6 ≤ H
      · obtain ⟨L, hL⟩ : ∃ L, H = sF (sh0 W F H) 6 + L := ⟨H - sF (sh0 W F H) 6, by omega⟩
        rw [pk_sub hS, show H - sF (sh0 W F H) 6 = L by omega, if_neg (nI_pos (by omega))]
        have done : (L = 0 ∨ c ≠ 0) → ∃ b, f_X9_givesByRests_184 108 (nI L) (nI c) h = some b ∧ (((sF (sh0 W F H) 6 ≤ H ∧ (H = sF (sh0 W F H) 6 ∨ c ≠ 0)) ∧ b.1 = 1 ∧ RfS P W F b.2 (GS.mk (shN rk c (sh0 W F H) L) 0 (fun _ => 0) 0)) ∨ (¬ (sF (sh0 W F H) 6 ≤ H ∧ (H = sF (sh0 W F H) 6 ∨ c ≠ 0)) ∧ b.1 = 0)) := fun hcz => by
          unfold f_X9_givesByRests_184
          refine lp_inv (F := Nat → Int32 → Int32 → Int32 → Hp → Option (Int32 × Hp)) (bot := fun _ _ _ _ _ => none) (G := f_X9_givesByRests_187) (fun K i (h : Hp) => K 108 (nI L) (nI c) (nI i) h) L (fun i h => RfS P W F h (GS.mk (shN rk c (sh0 W F H) i) 0 (fun _ => 0) 0) ∧ (∀ k, k < 6 → h.2 118 k = (if elg P W F H k = true then lN (rstN W H k) else -1)) ∧ (i % c ≠ 0 → ∀ k, k < 6 → h.1 119 k = if pas rk (i % c) k = true then 1 else 0)) _ ?_ ?_ 1000 0 h (by omega) (by omega) ⟨⟨fun k hk => ⟨(c1 k hk).1, (c1 k hk).2.1, (c1 k hk).2.2, (d1 k hk).2⟩, c2, fun i hi => absurd hi (Nat.not_lt_zero _), c3⟩, fun k hk => (d1 k hk).1, fun z => absurd (Nat.zero_mod c) z⟩
          · rintro K i h hi ⟨⟨m1, m2, m3, m4⟩, n1, n2⟩
            rw [gs_s] at m1
            have c0 : 0 < c := by omega
            have hm : i % c < c := Nat.mod_lt _ c0
            have hr := hlt _ hm
            obtain ⟨h', e1, e2, e3, e4⟩ := reset9 (L := L) c0 hc (by omega) n2 K
            have g1 := great9 (h := h') (E := elg P W F H) (Z := pas rk (i % c)) (R := rstN W H) bR (fun k hk => by rw [e3]; exact n1 k hk) e4
            rw [hgr _ hm] at g1
            have x16 : h'.1 116 (rk (i % c)) = nI (shN rk c (sh0 W F H) i (rk (i % c))) := by rw [e2 116 (by decide)]; exact (m1 _ hr).2.2.2
            refine ⟨sI (sI h' 119 (rk (i % c)) 1) 116 (rk (i % c)) (nI (shN rk c (sh0 W F H) i (rk (i % c)) + 1)), ⟨⟨fun k hk => ?_, ?_, fun i hi => absurd hi (Nat.not_lt_zero _), ?_⟩, fun k hk => ?_, fun hz k hk => ?_⟩, ?_⟩
            · obtain ⟨k1, k2, k3, k4⟩ := m1 k hk
              rw [gs_s]
              refine ⟨?_, ?_, ?_, ?_⟩
              · rw [sI_row _ _ _ (by decide), sI_row _ _ _ (by decide), e2 113 (by decide)]; exact k1
              · rw [sI_row _ _ _ (by decide), sI_row _ _ _ (by decide), e2 114 (by decide)]; exact k2
              · rw [sI_row _ _ _ (by decide), sI_row _ _ _ (by decide), e2 115 (by decide)]; exact k3
              · show _ = nI (up (shN rk c (sh0 W F H) i) (rk (i % c)) (shN rk c (sh0 W F H) i (rk (i % c)) + 1) k)
                rw [sI1, if_pos rfl]
                by_cases ek : k = rk (i % c)
                · rw [if_pos ek, ek, up_self]
                · rw [if_neg ek, up_ne _ _ ek, sI_row _ _ _ (by decide), e2 116 (by decide)]
                  exact k4
            · rw [sI_row _ _ _ (by decide), sI_row _ _ _ (by decide), e2 108 (by decide)]; exact m2
            · rw [sI_row _ _ _ (by decide), sI_row _ _ _ (by decide), e2 108 (by decide)]; exact m4
            · rw [sI_2, sI_2, e3]; exact n1 k hk
            · rw [succ_mod hz, sI_row _ _ _ (by decide), sI1, if_pos rfl]
              show _ = if (pas rk (i % c) k || decide (rk (i % c) = k)) = true then 1 else 0
              by_cases ek : k = rk (i % c)
              · rw [if_pos ek, if_pos (by simp [ek])]
              · rw [if_neg ek, e4 k hk]
                have : decide (rk (i % c) = k) = false := by simp; exact fun z => ek z.symm
                rw [this, Bool.or_false]
            · show f_X9_givesByRests_187 K 108 (nI L) (nI c) (nI i) h = _
              unfold f_X9_givesByRests_187
              rw [if_neg (nI_ge hi (by omega)), e1]
              unfold f_X9_givesByRests_226
              rw [g1]
              have hx : bi (some (rk (i % c))) = nI (rk (i % c)) := rfl
              simp only [Option.bind_some, lt, hx, ix6 hr, if_true, cl6' hr, nI_1, show 108 + 8 = 116 from rfl, show 108 + 11 = 119 from rfl, sI_row h' (rk (i % c)) (vp_nar .boolean 1) (show 116 ≠ 119 by decide), x16]
              rfl
          · rintro K h ⟨k1, m2, m3⟩
            show ∃ b, f_X9_givesByRests_187 K 108 (nI L) (nI c) (nI L) h = some b ∧ _
            unfold f_X9_givesByRests_187
            rw [if_pos (nI_le (Nat.le_refl L) (by omega))]
            exact ⟨(1, h), rfl, Or.inl ⟨⟨hS, by omega⟩, rfl, k1⟩⟩
        by_cases hL0 : L = 0
        · rw [if_pos (show nI L ≤ 0 by rw [hL0]; decide)]
          exact done (Or.inl hL0)
        · rw [if_neg (nI_nle (by omega) (by omega))]
          by_cases hc0 : c = 0
          · rw [if_pos (by rw [hc0]; rfl)]
            exact ⟨(0, h), rfl, Or.inr ⟨fun z => by omega, rfl⟩⟩
          · rw [if_neg (nI_ne0 (by omega) (by omega))]
            exact done (Or.inr hc0)
      · rw [if_pos (pk_sneg (by omega) (by omega))]
        exact ⟨(0, h), rfl, Or.inr ⟨fun z => hS z.1, rfl⟩⟩
