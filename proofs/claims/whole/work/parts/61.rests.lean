theorem rank8_loop {g p c : Nat} {R : Nat → Nat} (hp : p < 6) (hc : c < 6) (bR : ∀ k, R k < 2 ^ 63) : ∀ (t m : Nat) (h : Hp) (rk : Nat → Nat), t < m → t ≤ c → (∀ j, j ≤ c → j ≠ t → h.1 (g + 8) j = nI (rk j)) → (∀ j, j < t → rk j < 6 ∧ h.2 (g + 7) (rk j) = lN (R (rk j))) → h.2 (g + 7) p = lN (R p) → ∃ h', lp (F := Nat → Int32 → Int32 → Int32 → Hp → Option (Int32 × Hp)) (fun _ _ _ _ _ => none) f_X0_rank_2 m g (nI p) (nI c) (nI t) h = some (nI (c + 1), h') ∧ (∀ k, k ≠ g + 8 → h'.1 k = h.1 k) ∧ h'.2 = h.2 ∧ ∀ j, j ≤ c → h'.1 (g + 8) j = nI (insA R p t rk j) := by
  have put : ∀ (t : Nat) (h : Hp) (rk : Nat → Nat), t ≤ c → (∀ j, j ≤ c → j ≠ t → h.1 (g + 8) j = nI (rk j)) → ∃ h', f_X0_rank_49 g (nI p) (nI c) (nI t) h = some (nI (c + 1), h') ∧ (∀ k, k ≠ g + 8 → h'.1 k = h.1 k) ∧ h'.2 = h.2 ∧ ∀ j, j ≤ c → h'.1 (g + 8) j = nI (up rk t p j) := fun t h rk ht hh => by
    refine ⟨sI h (g + 8) t (nI p), ?_, fun k hk => sI_row _ _ _ hk, rfl, fun j hj => ?_⟩
    · unfold f_X0_rank_49
      rw [if_pos (ix6 (by omega)), cl6' (by omega), nI_1]
    · rw [sI1, if_pos rfl]
      by_cases e : j = t
      · rw [if_pos e, e, up_self]
      · rw [if_neg e, up_ne _ _ e]
        exact hh j hj e
  intro t
  induction t with
  | zero =>
    intro m h rk hm ht h1 h2 h3
    obtain ⟨m, rfl⟩ : ∃ k, m = k + 1 := ⟨m - 1, by omega⟩
    show ∃ h', f_X0_rank_2 _ g (nI p) (nI c) (nI 0) h = _ ∧ _
    unfold f_X0_rank_2
    rw [if_pos (show nI 0 ≤ 0 by decide)]
    exact put 0 h rk ht h1
  | succ t ih =>
    intro m h rk hm ht h1 h2 h3
    obtain ⟨m, rfl⟩ : ∃ k, m = k + 1 := ⟨m - 1, by omega⟩
    show ∃ h', f_X0_rank_2 (lp (F := Nat → Int32 → Int32 → Int32 → Hp → Option (Int32 × Hp)) (fun _ _ _ _ _ => none) f_X0_rank_2 m) g (nI p) (nI c) (nI (t + 1)) h = _ ∧ _
    generalize hK : lp (F := Nat → Int32 → Int32 → Int32 → Hp → Option (Int32 × Hp)) (fun _ _ _ _ _ => none) f_X0_rank_2 m = K
    have r := h2 t (by omega)
    unfold f_X0_rank_2
    rw [if_neg (nI_nle (by omega) (by omega)), nI_pred, if_pos (ix6 (by omega)), cl6' (show t < 6 by omega), h1 t (by omega) (by omega), if_pos (ix6 r.1), if_pos (ix6 hp), cl6' r.1, cl6' hp, r.2, h3]
    by_cases hr : R (rk t) < R p
    · rw [if_neg (by rw [lg_ge, pk_lLT (bR _) (bR _)]; omega), if_pos (ix6 (by omega)), if_pos (ix6 (by omega)), cl6' (by omega)]
      simp only [lt, pk_m1]
      have n1 : ∀ j, j ≤ c → j ≠ t → (sI h (g + 8) (t + 1) (nI (rk t))).1 (g + 8) j = nI (up rk (t + 1) (rk t) j) := fun j hj hn => by
        rw [sI1, if_pos rfl]
        by_cases e : j = t + 1
        · rw [if_pos e, e, up_self]
        · rw [if_neg e, up_ne _ _ e]
          exact h1 j hj e
      have n2 : ∀ j, j < t → up rk (t + 1) (rk t) j < 6 ∧ (sI h (g + 8) (t + 1) (nI (rk t))).2 (g + 7) (up rk (t + 1) (rk t) j) = lN (R (up rk (t + 1) (rk t) j)) := fun j hj => by
        rw [up_ne _ _ (by omega), sI_2]
        exact h2 j (by omega)
      obtain ⟨h', e1, e2, e3, e4⟩ := ih m (sI h (g + 8) (t + 1) (nI (rk t))) (up rk (t + 1) (rk t)) (by omega) (by omega) n1 n2 (by rw [sI_2]; exact h3)
      rw [hK] at e1
      refine ⟨h', e1, fun k hk => (e2 k hk).trans (sI_row _ _ _ hk), e3, fun j hj => ?_⟩
      rw [e4 j hj]
      show nI (insA R p t (up rk (t + 1) (rk t)) j) = nI ((if R (rk t) < R p then insA R p t (up rk (t + 1) (rk t)) else up rk (t + 1) p) j)
      rw [if_pos hr]
    · rw [if_pos (by rw [lg_ge, pk_lLT (bR _) (bR _)]; omega)]
      obtain ⟨h', e1, e2, e3, e4⟩ := put (t + 1) h rk ht h1
      refine ⟨h', e1, e2, e3, fun j hj => ?_⟩
      rw [e4 j hj]
      show _ = nI ((if R (rk t) < R p then insA R p t (up rk (t + 1) (rk t)) else up rk (t + 1) p) j)
      rw [if_neg hr]
theorem sF6 (f : Nat → Nat) : sF f 6 = f 0 + f 1 + f 2 + f 3 + f 4 + f 5 := by
  show 0 + f 0 + f 1 + f 2 + f 3 + f 4 + f 5 = _
  omega
theorem sF_bd {f : Nat → Nat} {B : Nat} (h : ∀ k, k < 6 → f k ≤ B) : ∀ i, i ≤ 6 → sF f i ≤ 6 * B := by
  have h0 := h 0 (by omega)
  have h1 := h 1 (by omega)
  have h2 := h 2 (by omega)
  have h3 := h 3 (by omega)
  have h4 := h 4 (by omega)
  have h5 := h 5 (by omega)
  intro i hi
  rcases (show i = 0 ∨ i = 1 ∨ i = 2 ∨ i = 3 ∨ i = 4 ∨ i = 5 ∨ i = 6 by omega) with rfl | rfl | rfl | rfl | rfl | rfl | rfl
  · show 0 ≤ _; omega
  · show 0 + f 0 ≤ _; omega
  · show 0 + f 0 + f 1 ≤ _; omega
  · show 0 + f 0 + f 1 + f 2 ≤ _; omega
  · show 0 + f 0 + f 1 + f 2 + f 3 ≤ _; omega
  · show 0 + f 0 + f 1 + f 2 + f 3 + f 4 ≤ _; omega
  · show 0 + f 0 + f 1 + f 2 + f 3 + f 4 + f 5 ≤ _; omega
theorem cut_le {W : Nat → Nat} {H k : Nat} (hk : k < 6) (h0 : 0 < sF W 6) : cutN W H k ≤ H := by
  unfold cutN
  have := sF_le (F := W) hk
  exact Nat.div_le_of_le_mul (Nat.mul_le_mul_right H this)
theorem sh0_le {W F : Nat → Nat} {H k : Nat} (hk : k < 6) (h0 : 0 < sF W 6) (hH : H ≤ 60) (hF : F k ≤ 100) : sh0 W F H k ≤ 100 := by
  have := cut_le (H := H) hk h0
  unfold sh0
  split <;> omega
theorem sh0_nI {W F : Nat → Nat} {H k : Nat} (hk : k < 6) (h0 : 0 < sF W 6) (hH : H ≤ 60) (hF : F k ≤ 100) : (if nI (F k) < nI (cutN W H k) then nI (cutN W H k) else nI (F k)) = nI (sh0 W F H k) := by
  have := cut_le (H := H) hk h0
  unfold sh0
  by_cases q : F k < cutN W H k
  · rw [if_pos q, if_pos (nI_lt q (by omega))]
  · rw [if_neg q, if_neg (by rw [nI_ltI (by omega) (by omega)]; exact q)]
/-- the class's giver, seats given -/
def ClR (P : Nat → Bool) (W F : Nat → Nat) (h : Hp) (g : Nat) (st : GS) : Prop := h.1 g 4 = bits6 P ∧ (∀ k, k < 6 → h.2 (g + 3) k = lN (W k)) ∧ (∀ k, k < 6 → h.1 (g + 4) k = nI (F k)) ∧ (∀ k, k < 6 → h.1 (g + 1) k = nI (st.s k)) ∧ h.1 g 2 = nI st.c ∧ (∀ i, i < st.c → h.1 (g + 2) i = nI (st.wt i)) ∧ h.1 g 3 = st.x
def gsR (P : Nat → Bool) (W F : Nat → Nat) (H : Nat) : GS := GS.mk (shN (rkd (rstN W H) (elg P W F H) 6).1 (rkd (rstN W H) (elg P W F H) 6).2 (sh0 W F H) (H - sF (sh0 W F H) 6)) 0 (fun _ => 0) 0
/-- can the seats be given by rests? -/
def okR (P : Nat → Bool) (W F : Nat → Nat) (H : Nat) : Prop := sF (sh0 W F H) 6 ≤ H ∧ (H = sF (sh0 W F H) 6 ∨ (rkd (rstN W H) (elg P W F H) 6).2 ≠ 0)
theorem rkd_lt {R : Nat → Nat} {E : Nat → Bool} {t : Nat} {i : Nat} (h : t < (rkd R E i).2) : (rkd R E i).1 t < i := (((rkd_ok R E i).2.2 _).mp ⟨t, h, rfl⟩).1
theorem giveR8 {P : Nat → Bool} {W F : Nat → Nat} (h0 : 0 < sF W 6) (bW : ∀ k, k < 6 → W k ≤ 2400000) (bF : ∀ k, k < 6 → F k ≤ 100) {g : Nat} {h : Hp} (hE : ClE P W F h g) {H : Nat} (hH : H ≤ 60) : ∃ b, f_X0_giveByRests g (nI H) h = some b ∧ ((okR P W F H ∧ b.1 = 1 ∧ ClR P W F b.2 g (gsR P W F H)) ∨ (¬ okR P W F H ∧ b.1 = 0)) := by
  have bA := sF_bd bW 6 (by omega)
  have bS := sF_bd (f := sh0 W F H) (B := 100) (fun k hk => sh0_le hk h0 hH (bF k hk))
  have bR : ∀ k, rstN W H k < 2 ^ 63 := fun k => by
    have := Nat.mod_lt (W k * H) h0
    unfold rstN
    omega
  unfold f_X0_giveByRests
  refine lp_inv (F := Nat → Int32 → Int64 → Int32 → Hp → Option (Int32 × Hp)) (bot := fun _ _ _ _ _ => none) (G := f_X0_giveByRests_5) (fun K i (_ : Unit) => K g (nI H) (lN (sF W i)) (nI i) h) 6 (fun _ _ => True) _ ?_ ?_ 1000 0 () (by omega) (by omega) trivial
  · intro K i _ hi _
    refine ⟨(), trivial, ?_⟩
    show f_X0_giveByRests_5 K g (nI H) (lN (sF W i)) (nI i) h = _
    unfold f_X0_giveByRests_5
    rw [if_neg (ge6 hi), if_pos (ix6 hi), cl6' hi, hE.2.1 i hi, lN_add, nI_1]
    rfl
  · intro K _ _
    show ∃ b, f_X0_giveByRests_5 K g (nI H) (lN (sF W 6)) (nI 6) h = some b ∧ _
    unfold f_X0_giveByRests_5
    rw [if_pos (show (6 : Int32) ≤ nI 6 by decide), if_pos (by rw [lg_gt, l0, pk_lLT (by decide) (by omega)]; exact h0)]
    have e0 : nI H - nI (sF (sh0 W F H) 0) = nI H := pk_sub (a := H) (b := 0) (Nat.zero_le H)
    have e1 : f_X0_giveByRests_45 = f_X0_giveByRests_45 := rfl
    suffices hh : ∃ b, lp (F := Nat → Int32 → Int64 → Int32 → Int32 → Int32 → Hp → Option (Int32 × Hp)) (fun _ _ _ _ _ _ _ => none) f_X0_giveByRests_45 1000 g (nI H) (lN (sF W 6)) (nI H - nI (sF (sh0 W F H) 0)) (nI 0) (nI 0) h = some b ∧ ((okR P W F H ∧ b.1 = 1 ∧ ClR P W F b.2 g (gsR P W F H)) ∨ (¬ okR P W F H ∧ b.1 = 0)) by
      rw [e0] at hh
      exact hh
    refine lp_inv (F := Nat → Int32 → Int64 → Int32 → Int32 → Int32 → Hp → Option (Int32 × Hp)) (bot := fun _ _ _ _ _ _ _ => none) (G := f_X0_giveByRests_45) (fun K i (h : Hp) => K g (nI H) (lN (sF W 6)) (nI H - nI (sF (sh0 W F H) i)) (nI (rkd (rstN W H) (elg P W F H) i).2) (nI i) h) 6 (fun i h => ClE P W F h g ∧ (∀ k, k < i → h.2 (g + 7) k = lN (rstN W H k) ∧ h.1 (g + 1) k = nI (sh0 W F H k)) ∧ ∀ t, t < (rkd (rstN W H) (elg P W F H) i).2 → h.1 (g + 8) t = nI ((rkd (rstN W H) (elg P W F H) i).1 t)) _ ?_ ?_ 1000 0 h (by omega) (by omega) ⟨hE, fun k hk => by omega, fun t ht => absurd ht (Nat.not_lt_zero _)⟩
    · rintro K i h hi ⟨⟨c1, c2, c3, c4, c5⟩, d1, d2⟩
      have hb1 : W i * H ≤ 2400000 * 60 := Nat.mul_le_mul (bW i hi) hH
      have hcut := cut_le (W := W) (H := H) hi h0
      have hFi := bF i hi
      have z : ¬ lN (sF W 6) = 0 := by rw [lN_e0 (by omega)]; omega
      have ecut : Int64.toInt32 (lN (W i) * Int32.toInt64 (nI H) / lN (sF W 6)) = nI (cutN W H i) := by
        rw [nI_l (by omega), lN_mul, pk_lDiv (by omega) h0 (by omega), lN_i]
        rfl
      have erst : lN (W i) * Int32.toInt64 (nI H) - lN (W i) * Int32.toInt64 (nI H) / lN (sF W 6) * lN (sF W 6) = lN (rstN W H i) := by
        rw [nI_l (by omega), lN_mul, pk_lRem (by omega) h0 (by omega)]
        rfl
      -- the numbers behind the row's first part
      have hh : ∃ h2 : Hp, h2 = sI (sL h (g + 7) i (lN (rstN W H i))) (g + 1) i (nI (sh0 W F H i)) := ⟨_, rfl⟩
      obtain ⟨h2, eh2⟩ := hh
      have f1 : h2.1 g 4 = bits6 P := by rw [eh2]; simp [sI1, sL1, c1]
      have f2 : ∀ k, k < 6 → h2.2 (g + 3) k = lN (W k) := fun k hk => by rw [eh2]; simp [sI_2, sL2]; exact c2 k hk
      have f3 : ∀ k, k < 6 → h2.1 (g + 4) k = nI (F k) := fun k hk => by rw [eh2]; simp [sI1, sL1]; exact c3 k hk
      have f4 : h2.1 g 2 = 0 := by rw [eh2]; simp [sI1, sL1, c4]
      have f5 : h2.1 g 3 = 0 := by rw [eh2]; simp [sI1, sL1, c5]
      have f6 : ∀ k, k < i + 1 → h2.2 (g + 7) k = lN (rstN W H k) ∧ h2.1 (g + 1) k = nI (sh0 W F H k) := fun k hk => by
        rw [eh2]
        simp [sI1, sL1, sI_2, sL2]
        by_cases ek : k = i
        · subst ek
          simp
        · rw [if_neg ek, if_neg ek]
          exact d1 k (by omega)
      have f7 : ∀ t, t < (rkd (rstN W H) (elg P W F H) i).2 → h2.1 (g + 8) t = nI ((rkd (rstN W H) (elg P W F H) i).1 t) := fun t ht => by
        rw [eh2]
        simp [sI1, sL1]
        exact d2 t ht
      have er : rkd (rstN W H) (elg P W F H) (i + 1) = rkS (rstN W H) (elg P W F H) i (rkd (rstN W H) (elg P W F H) i) := rfl
      have ex : f_X0_giveByRests_45 K g (nI H) (lN (sF W 6)) (nI H - nI (sF (sh0 W F H) i)) (nI (rkd (rstN W H) (elg P W F H) i).2) (nI i) h = (if elg P W F H i = true then ((f_X0_rank g (nI i) (nI (rkd (rstN W H) (elg P W F H) i).2) h2).bind (fun q8 => K g (nI H) (lN (sF W 6)) (nI H - nI (sF (sh0 W F H) (i + 1))) q8.1 (nI (i + 1)) q8.2)) else K g (nI H) (lN (sF W 6)) (nI H - nI (sF (sh0 W F H) (i + 1))) (nI (rkd (rstN W H) (elg P W F H) i).2) (nI (i + 1)) h2) := by
        unfold f_X0_giveByRests_45 f_X0_giveByRests_151
        rw [if_neg (ge6 hi), if_pos (ix6 hi), if_neg z, cl6' hi, c2 i hi, ecut, erst]
        simp only [lt]
        rw [if_pos (ix6 hi), if_neg z, if_pos (ix6 hi), if_pos (ix6 hi), if_pos (ix6 hi), if_pos (ix6 hi), sL1, c3 i hi, sh0_nI hi h0 hH hFi, ← eh2, (f6 i (by omega)).2, f1, holds6 P hi, sub_sub32]
        simp only [Option.bind_some, nI_1]
        unfold elg
        by_cases hP : P i = true
        · rw [if_pos hP, if_neg one_ne, if_pos (ix6 hi), f3 i hi]
          by_cases hF : F i ≤ cutN W H i
          · rw [if_neg (by rw [nI_ltI (by omega) (by omega)]; omega), if_pos (by rw [hP]; simp [hF])]
            rfl
          · rw [if_pos (by rw [nI_ltI (by omega) (by omega)]; omega), if_neg (by simp [hF])]
            rfl
        · rw [if_neg hP, if_pos rfl, if_neg (by simp [hP])]
          rfl
      by_cases hel : elg P W F H i = true
      · rw [if_pos hel] at ex
        have hc := (rkd_ok (rstN W H) (elg P W F H) i).1
        obtain ⟨h', g1, g2, g3, g4⟩ := rank8_loop (g := g) (R := rstN W H) hi (c := (rkd (rstN W H) (elg P W F H) i).2) (by omega) bR (rkd (rstN W H) (elg P W F H) i).2 1000 h2 (rkd (rstN W H) (elg P W F H) i).1 (by omega) (Nat.le_refl _) (fun j hj hn => f7 j (by omega)) (fun j hj => by
          have := rkd_lt hj
          exact ⟨by omega, (f6 _ (by omega)).1⟩) (f6 i (by omega)).1
        have g1 : f_X0_rank g (nI i) (nI (rkd (rstN W H) (elg P W F H) i).2) h2 = _ := g1
        rw [g1] at ex
        have er2 : rkd (rstN W H) (elg P W F H) (i + 1) = (insA (rstN W H) i (rkd (rstN W H) (elg P W F H) i).2 (rkd (rstN W H) (elg P W F H) i).1, (rkd (rstN W H) (elg P W F H) i).2 + 1) := by
          rw [er]
          exact if_pos hel
        refine ⟨h', ⟨⟨?_, ?_, ?_, ?_, ?_⟩, ?_, ?_⟩, ?_⟩
        · rw [g2 g (by omega)]; exact f1
        · rw [g3]; exact f2
        · rw [g2 (g + 4) (by omega)]; exact f3
        · rw [g2 g (by omega)]; exact f4
        · rw [g2 g (by omega)]; exact f5
        · rw [g2 (g + 1) (by omega), g3]; exact f6
        · rw [er2]
          exact fun t ht => g4 t (by dsimp only at ht; omega)
        · rw [er2]
          exact ex
      · rw [if_neg hel] at ex
        have er2 : rkd (rstN W H) (elg P W F H) (i + 1) = rkd (rstN W H) (elg P W F H) i := by
          rw [er]
          exact if_neg hel
        refine ⟨h2, ⟨⟨f1, f2, f3, f4, f5⟩, f6, ?_⟩, ?_⟩
        · rw [er2]; exact f7
        · rw [er2]; exact ex
    · rintro K h ⟨⟨c1, c2, c3, c4, c5⟩, d1, d2⟩
      have hc := (rkd_ok (rstN W H) (elg P W F H) 6).1
      have hlt : ∀ t, t < (rkd (rstN W H) (elg P W F H) 6).2 → (rkd (rstN W H) (elg P W F H) 6).1 t < 6 := fun t ht => rkd_lt ht
      have bS6 := bS 6 (by omega)
      show ∃ b, f_X0_giveByRests_45 K g (nI H) (lN (sF W 6)) (nI H - nI (sF (sh0 W F H) 6)) (nI (rkd (rstN W H) (elg P W F H) 6).2) (nI 6) h = some b ∧ _
      unfold gsR okR
      generalize rkd (rstN W H) (elg P W F H) 6 = q at hc hlt d2 ⊢
      obtain ⟨rk, c⟩ := q
      dsimp only at hc hlt d2 ⊢
      unfold f_X0_giveByRests_45
      rw [if_pos (show (6 : Int32) ≤ nI 6 by decide)]
      by_cases hS : sF (sh0 W F H) 6 ≤ H
      · obtain ⟨L, hL⟩ : ∃ L, H = sF (sh0 W F H) 6 + L := ⟨H - sF (sh0 W F H) 6, by omega⟩
        rw [pk_sub hS, show H - sF (sh0 W F H) 6 = L by omega, if_neg (nI_pos (by omega))]
        have done : (L = 0 ∨ c ≠ 0) → ∃ b, f_X0_giveByRests_174 g (nI L) (nI c) h = some b ∧ (((sF (sh0 W F H) 6 ≤ H ∧ (H = sF (sh0 W F H) 6 ∨ c ≠ 0)) ∧ b.1 = 1 ∧ ClR P W F b.2 g (GS.mk (shN rk c (sh0 W F H) L) 0 (fun _ => 0) 0)) ∨ (¬ (sF (sh0 W F H) 6 ≤ H ∧ (H = sF (sh0 W F H) 6 ∨ c ≠ 0)) ∧ b.1 = 0)) := fun hcz => by
          unfold f_X0_giveByRests_174
          refine lp_inv (F := Nat → Int32 → Int32 → Int32 → Hp → Option (Int32 × Hp)) (bot := fun _ _ _ _ _ => none) (G := f_X0_giveByRests_177) (fun K i (h : Hp) => K g (nI L) (nI c) (nI i) h) L (fun i h => ClR P W F h g (GS.mk (shN rk c (sh0 W F H) i) 0 (fun _ => 0) 0) ∧ ∀ t, t < c → h.1 (g + 8) t = nI (rk t)) _ ?_ ?_ 1000 0 h (by omega) (by omega) ⟨⟨c1, c2, c3, fun k hk => (d1 k hk).2, c4, fun i hi => absurd hi (Nat.not_lt_zero _), c5⟩, d2⟩
          · rintro K i h hi ⟨⟨k1, k2, k3, k4, k5, k6, k7⟩, m2⟩
            have c0 : 0 < c := by omega
            have hm : i % c < c := Nat.mod_lt _ c0
            have hr := hlt _ hm
            refine ⟨sI h (g + 1) (rk (i % c)) (nI (shN rk c (sh0 W F H) i (rk (i % c)) + 1)), ⟨⟨?_, k2, fun k hk => ?_, fun k hk => ?_, ?_, fun i hi => absurd hi (Nat.not_lt_zero _), ?_⟩, fun t ht => ?_⟩, ?_⟩
            · rw [sI_row _ _ _ (by omega)]; exact k1
            · rw [sI_row _ _ _ (by omega)]; exact k3 k hk
            · rw [gs_s]
              show _ = nI (up (shN rk c (sh0 W F H) i) (rk (i % c)) (shN rk c (sh0 W F H) i (rk (i % c)) + 1) k)
              rw [sI1, if_pos rfl]
              by_cases ek : k = rk (i % c)
              · rw [if_pos ek, ek, up_self]
              · rw [if_neg ek, up_ne _ _ ek]
                exact k4 k hk
            · rw [sI_row _ _ _ (by omega)]; exact k5
            · rw [sI_row _ _ _ (by omega)]; exact k7
            · rw [sI_row _ _ _ (by omega)]; exact m2 t ht
            · show f_X0_giveByRests_177 K g (nI L) (nI c) (nI i) h = _
              unfold f_X0_giveByRests_177
              rw [if_neg (nI_ge hi (by omega)), if_neg (nI_ne0 c0 (by omega)), pk_rem (by omega) c0 (by omega), if_pos (ix6 (by omega)), cl6' (show i % c < 6 by omega), m2 _ hm, if_pos (ix6 hr), if_pos (ix6 hr), cl6' hr, k4 _ hr]
              simp only [lt, nI_1]
              rfl
          · rintro K h ⟨k1, m2⟩
            show ∃ b, f_X0_giveByRests_177 K g (nI L) (nI c) (nI L) h = some b ∧ _
            unfold f_X0_giveByRests_177
            rw [if_pos (nI_le (Nat.le_refl L) (by omega))]
            exact ⟨(1, h), rfl, Or.inl ⟨⟨hS, by omega⟩, rfl, k1⟩⟩
        by_cases hL0 : L = 0
        · rw [if_pos (show nI L ≤ 0 by rw [hL0]; decide)]
          exact done (Or.inl hL0)
        · rw [if_neg (nI_nle (by omega) (by omega))]
          by_cases hc0 : c = 0
          · rw [if_pos (by rw [hc0]; rfl)]
            exact ⟨(0, h), rfl, Or.inr ⟨fun z => by omega, rfl⟩⟩
          · rw [if_neg (nI_ne0 (by omega) (by omega))]
            exact done (Or.inr hc0)
      · rw [if_pos (pk_sneg (by omega) (by omega))]
        exact ⟨(0, h), rfl, Or.inr ⟨fun z => hS z.1, rfl⟩⟩
