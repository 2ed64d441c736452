theorem up_up (N : Nat → Nat) (k u v : Nat) : up (up N k u) k v = up N k v := funext fun i => by
  unfold up
  by_cases e : i = k
  · rw [if_pos e, if_pos e]
  · rw [if_neg e, if_neg e, if_neg e]
theorem up_id (N : Nat → Nat) (k : Nat) : up N k (N k) = N := funext fun i => by
  unfold up
  by_cases e : i = k
  · rw [if_pos e, e]
  · rw [if_neg e]
theorem Vn_vote {N : Nat → Nat} (v : Vn N) {k u : Nat} (hk : k < 24) (hu : u ≤ 100000) : Vn (up N k u) := Vn_up v (by unfold bd; rw [if_pos hk]; exact hu) (by omega)
theorem lc_vote {k : Nat} (hk : k < 24) : lc k = (1, k) := if_pos hk
theorem c6 (w p : Nat) : (6 : Int32) * nI w + nI p = nI (6 * w + p) := by rw [show (6 : Int32) = nI 6 from rfl, pk_mul, nI_add]
theorem sup9 {N : Nat → Nat} {h : Hp} (b : Po h 109 N) {w p u H : Nat} (hw : w < 4) (hp : p < 6) (v : Vn (up N (6 * w + p) u)) (hH : H ≤ 60) : ∃ o, f_X9_supposed 108 (nI w) (nI p) (nI u) (nI H) h = some (if okHb (up N (6 * w + p) u) (N 41) H = true then nI (pS (up N (6 * w + p) u) (N 41) H p) else -3, o) ∧ Keep h o := by
  have hk : 6 * w + p < 24 := by omega
  have e41 : up N (6 * w + p) u 41 = N 41 := up_ne _ _ (by omega)
  have b2 : Po (sI h 109 (6 * w + p) (nI u)) 109 (up N (6 * w + p) u) := Po_set b
  have hw6 : N 41 ≤ 6 := by rw [← e41]; exact v.w
  obtain ⟨o, e, f, c⟩ := hs9 b2 v hw6 hH
  refine ⟨sI o 109 (6 * w + p) (h.1 109 (6 * w + p)), ?_, ?_⟩
  · unfold f_X9_supposed f_X9_supposed_49
    rw [c6]
    simp only [lt, ix_nI (show 6 * w + p < 44 by omega) (by decide : 44 < 2 ^ 31), if_true, nI_clamp (show 6 * w + p < 2 ^ 31 by omega), show 108 + 1 = 109 from rfl]
    rw [wayNow9 b2]
    simp only [Option.bind_some]
    rw [e41, e]
    simp only [Option.bind_some]
    by_cases ok : okHb (up N (6 * w + p) u) (N 41) H = true
    · rw [if_pos ok, if_neg one_ne, if_pos (ix6 hp), cl6' hp, if_pos ok, show o.1 (108 + 16) p = _ from (c ok).2.1 p hp]
    · rw [if_neg ok, if_pos rfl, if_neg ok]
  · have all : ∀ r, r ∉ HR → r ≠ 108 → (sI o 109 (6 * w + p) (h.1 109 (6 * w + p))).1 r = h.1 r := fun r h1 h2 => by
      by_cases e9 : r = 109
      · subst e9
        funext j
        rw [sI1, if_pos rfl]
        by_cases ej : j = 6 * w + p
        · rw [if_pos ej, ej]
        · rw [if_neg ej, f.1 109 h1 h2, sI1, if_pos rfl, if_neg ej]
      · rw [sI_row _ _ _ e9, f.1 r h1 h2, sI_row _ _ _ e9]
    have q1 : ∀ k ∈ keepRows, k ∉ HR ∧ k ≠ 108 := by decide
    have q2 : ∀ q ∈ keepCells, (q.1 = 108 ∧ q.2 ∉ [14, 15, 24, 25]) ∨ (q.1 ∉ HR ∧ q.1 ≠ 108) := by decide
    refine ⟨fun k hk => all k (q1 k hk).1 (q1 k hk).2, fun q hq => ?_⟩
    rcases q2 q hq with ⟨z1, z2⟩ | ⟨z1, z2⟩
    · rw [z1, sI_row _ _ _ (by decide), f.2.2 q.2 z2, sI_row _ _ _ (by decide)]
    · rw [all q.1 z1 z2]
theorem kpW {h h' : Hp} (f : Fc 11 16 [] h h') : Keep h h' := Keep.ofFc f (by decide) (by decide)
theorem kpS12 (h : Hp) (i : Nat) (x : Int32) : Keep h (sI h 12 i x) := Keep.ofFc (lo := 11) (hi := 16) (X := []) (Fc_sI Fc.refl rfl (Or.inl ⟨by decide, by decide⟩)) (by decide) (by decide)
theorem setW {N : Nat → Nat} {h : Hp} {k u : Nat} (hk : k < 24) (a : Pc h 11 N) : Pc (sI h 12 k (nI u)) 11 (up N k u) := by
  have := Pc_set (p := 11) (k := k) (v := u) (by omega) a
  rw [lc_vote hk] at this
  exact this
/-- how many votes more -/
def neeN (N : Nat → Nat) (k p H : Nat) : Option Nat := ff (fun d => okHb (up N k (N k + d)) (N 41) H && decide (pS N (N 41) H p < pS (up N k (N k + d)) (N 41) H p)) (min 300 (100000 - N k)) 1
section OPS4
variable {PK : (Nat → Nat) → Hp → Prop}
theorem op_would (hPK : PKok PK) (z1 z2 z3 z4 : Int32) : Op (Rel PK) (fun h => f_X8_would 0 z1 z2 z3 z4 h) (fun h => f_X9_would 108 z1 z2 z3 z4 h) := by
  intro h ⟨N, hR⟩
  rcases rng z1 3 (by decide) with ⟨w, hw, rfl⟩ | o1
  · rcases rng z2 5 (by decide) with ⟨p, hp, rfl⟩ | o2
    · rcases rng z3 100000 (by decide) with ⟨u, hu, rfl⟩ | o3
      · rcases rng z4 60 (by decide) with ⟨H, hH, rfl⟩ | o4
        · have hk : 6 * w + p < 24 := by omega
          have v := Vn_vote hR.1 hk hu
          have R1 := hR.keep hPK (kpW (copy_11_1_fr h))
          have a2 := setW (u := u) hk (copy_11_1 hR.2.1)
          have R2 := R1.keep hPK (kpS12 (cp_11_1 h) (6 * w + p) (nI u))
          obtain ⟨b, e, ef, ec⟩ := fillB8 v hR.1.w (G := 36) (p := 11) (by decide) hs36 a2 hH
          have R3 := R2.keep hPK (kpB ef)
          obtain ⟨o, e9, k9⟩ := sup9 R3.2.2.1 (show w < 4 by omega) (show p < 6 by omega) v hH
          have ew : (sI (cp_11_1 h) 12 (6 * w + p) (nI u)).1 (0 + 1) 5 = nI (N 41) := R2.2.1 41 (by decide)
          refine ⟨if okHb (up N (6 * w + p) u) (N 41) H = true then nI (pS (up N (6 * w + p) u) (N 41) H p) else -3, b, o, ?_, ?_, ⟨N, R3.keep hPK k9⟩⟩
          · dsimp only
            unfold f_X8_would
            simp only [w8i_3 _ hw, w8i_5 _ hp, w8i_100000 _ hu, w8i_60 _ hH, Option.bind_some, one_ne, if_false, show f_X3_copyFrom (0 + 11) (0 + 1) h = _ from copy_11_1_eq h, cell8, show w * 6 + p = 6 * w + p by omega, ix_nI hk (by decide : 24 < 2 ^ 31), if_true, lt, nI_clamp (show 6 * w + p < 2 ^ 31 by omega)]
            rw [show (0 + 11 + 1 : Nat) = 12 from rfl, ew, show f_X1_fill (0 + 36) (0 + 11) (nI (N 41)) (nI H) _ = _ from e]
            simp only [Option.bind_some, ix6 (show p < 6 by omega), if_true, cl6' (show p < 6 by omega)]
            by_cases ok : okHb (up N (6 * w + p) u) (N 41) H = true
            · rw [if_pos ok, if_neg one_ne, if_pos ok, show b.1 (0 + 36 + 10) p = _ from (ec ok).2.2 p (by omega)]
            · rw [if_neg ok, if_pos rfl, if_neg ok]
          · dsimp only
            unfold f_X9_would
            simp only [isWardi _ hw, isPartyi _ hp, w9i_0_100000 _ (Nat.zero_le u) hu, isHousei _ hH, Option.bind_some, one_ne, if_false, e9]
        · refine same_op (r := -2) ⟨N, hR⟩ ?_ ?_
          · unfold f_X8_would
            simp only [w8i_3 _ hw, w8i_5 _ hp, w8i_100000 _ hu, w8o_60 _ o4, Option.bind_some, one_ne, if_false, if_true]
          · unfold f_X9_would
            simp only [isWardi _ hw, isPartyi _ hp, w9i_0_100000 _ (Nat.zero_le u) hu, isHouseo _ o4, Option.bind_some, one_ne, if_false, if_true]
      · refine same_op (r := -2) ⟨N, hR⟩ ?_ ?_
        · unfold f_X8_would
          simp only [w8i_3 _ hw, w8i_5 _ hp, w8o_100000 _ o3, Option.bind_some, one_ne, if_false, if_true]
        · unfold f_X9_would
          simp only [isWardi _ hw, isPartyi _ hp, w9o_0_100000 _ o3, Option.bind_some, one_ne, if_false, if_true]
    · refine same_op (r := -1) ⟨N, hR⟩ ?_ ?_
      · unfold f_X8_would
        simp only [w8i_3 _ hw, w8o_5 _ o2, Option.bind_some, one_ne, if_false, if_true]
      · unfold f_X9_would
        simp only [isWardi _ hw, isPartyo _ o2, Option.bind_some, one_ne, if_false, if_true]
  · refine same_op (r := -1) ⟨N, hR⟩ ?_ ?_
    · unfold f_X8_would
      simp only [w8o_3 _ o1, Option.bind_some, if_true]
    · unfold f_X9_would
      simp only [isWardo _ o1, Option.bind_some, if_true]
theorem vote_le {N : Nat → Nat} (v : Vn N) {k : Nat} (hk : k < 24) : N k ≤ 100000 := by
  have := v.1 k (by omega)
  unfold bd at this
  rw [if_pos hk] at this
  exact this
theorem op_needs (hPK : PKok PK) (z1 z2 z3 : Int32) : Op (Rel PK) (fun h => f_X8_needs 0 z1 z2 z3 h) (fun h => f_X9_needs 108 z1 z2 z3 h) := by
  intro h ⟨N, hR⟩
  have v := hR.1
  rcases rng z1 3 (by decide) with ⟨w, hw, rfl⟩ | o1
  · rcases rng z2 5 (by decide) with ⟨p, hp, rfl⟩ | o2
    · rcases rng z3 60 (by decide) with ⟨H, hH, rfl⟩ | o3
      · have hk : 6 * w + p < 24 := by omega
        have hp6 : p < 6 := by omega
        have hNk := vote_le v hk
        obtain ⟨b, e, ef, ec⟩ := fillNow8 hR.2.1 v hH
        have R1 := hR.keep hPK (kpA ef)
        have first9 : ∀ h2, RelN PK N h2 → ∃ o, f_X9_supposed 108 (nI w) (nI p) (nI (N (6 * w + p))) (nI H) h2 = some (if okHb N (N 41) H = true then nI (pS N (N 41) H p) else -3, o) ∧ Keep h2 o := fun h2 R => by
          obtain ⟨o, q1, q2⟩ := sup9 (u := N (6 * w + p)) R.2.2.1 (show w < 4 by omega) hp6 (by rw [up_id]; exact v) hH
          rw [up_id] at q1
          exact ⟨o, q1, q2⟩
        by_cases k1 : okHb N (N 41) H = true
        · have hps := pS_le v k1 hp6
          have R2 := R1.keep hPK (kpW (copy_11_1_fr b))
          have L8 : ∃ q, lp (F := Nat → Int32 → Int32 → Int32 → Int32 → Int32 → Hp → Option (Int32 × Hp)) (fun _ _ _ _ _ _ _ => none) f_X8_needs_65 1000 0 (nI p) (nI H) (nI (pS N (N 41) H p)) (nI (6 * w + p)) (nI 1) (cp_11_1 b) = some q ∧ (q.1 = l5 (neeN N (6 * w + p) p H) ∧ Keep (cp_11_1 b) q.2) := by
            refine lp_invE (F := Nat → Int32 → Int32 → Int32 → Int32 → Int32 → Hp → Option (Int32 × Hp)) (bot := fun _ _ _ _ _ _ _ => none) (G := f_X8_needs_65) (fun K i (s : Hp) => K 0 (nI p) (nI H) (nI (pS N (N 41) H p)) (nI (6 * w + p)) (nI i) s) (min 300 (100000 - N (6 * w + p)) + 1) (fun i s => Keep (cp_11_1 b) s ∧ (∃ u, Pc s 11 (up N (6 * w + p) u)) ∧ 1 ≤ i ∧ ∀ j, 1 ≤ j → j < i → (okHb (up N (6 * w + p) (N (6 * w + p) + j)) (N 41) H && decide (pS N (N 41) H p < pS (up N (6 * w + p) (N (6 * w + p) + j)) (N 41) H p)) = false) _ ?_ ?_ 1000 1 (cp_11_1 b) (by omega) (by omega) ⟨Keep.refl, ⟨N (6 * w + p), by rw [up_id]; exact copy_11_1 R1.2.1⟩, Nat.le_refl 1, fun j h1 h2 => by omega⟩
            · rintro K i s hi ⟨c1, ⟨u, c2⟩, c3, c4⟩
              have Rk := R2.keep hPK c1
              have vi := Vn_vote v (u := N (6 * w + p) + i) hk (by omega)
              have a2 := setW (u := N (6 * w + p) + i) hk c2
              rw [up_up] at a2
              have R3 := Rk.keep hPK (kpS12 s (6 * w + p) (nI (N (6 * w + p) + i)))
              obtain ⟨b2, e2, ef2, ec2⟩ := fillB8 vi v.w (G := 36) (p := 11) (by decide) hs36 a2 hH
              have ew : (sI s 12 (6 * w + p) (nI (N (6 * w + p) + i))).1 (0 + 1) 5 = nI (N 41) := R3.2.1 41 (by decide)
              have kp : Keep (cp_11_1 b) b2 := (c1.trans (kpS12 _ _ _)).trans (kpB ef2)
              have ec0 : s.1 (0 + 1 + 1) (6 * w + p) = nI (N (6 * w + p)) := cast8 Rk.2.1 hk
              show (∃ s', _ ∧ f_X8_needs_65 K 0 (nI p) (nI H) (nI (pS N (N 41) H p)) (nI (6 * w + p)) (nI i) s = _) ∨ ∃ q, f_X8_needs_65 K 0 (nI p) (nI H) (nI (pS N (N 41) H p)) (nI (6 * w + p)) (nI i) s = some q ∧ _
              unfold f_X8_needs_65 f_X8_needs_153
              rw [if_neg (show ¬ (300 : Int32) < nI i from nI_nlt (a := 300) (by omega) (by decide))]
              simp only [ix_nI hk (by decide : 24 < 2 ^ 31), if_true, nI_clamp (show 6 * w + p < 2 ^ 31 by omega), ec0, nI_add, lt, nI_1, show 0 + 11 + 1 = 12 from rfl]
              rw [if_neg (show ¬ (100000 : Int32) < nI (N (6 * w + p) + i) from nI_nlt (a := 100000) (by omega) (by decide)), ew, show f_X1_fill (0 + 36) (0 + 11) (nI (N 41)) (nI H) _ = _ from e2]
              simp only [Option.bind_some, ix6 hp6, if_true, cl6' hp6]
              have a2b : Pc b2 11 (up N (6 * w + p) (N (6 * w + p) + i)) := ef2.pc a2 (fun j hj => ⟨by omega, by simp⟩)
              have go : (okHb (up N (6 * w + p) (N (6 * w + p) + i)) (N 41) H && decide (pS N (N 41) H p < pS (up N (6 * w + p) (N (6 * w + p) + i)) (N 41) H p)) = false → ∃ s', (Keep (cp_11_1 b) s' ∧ (∃ u, Pc s' 11 (up N (6 * w + p) u)) ∧ 1 ≤ i + 1 ∧ ∀ j, 1 ≤ j → j < i + 1 → (okHb (up N (6 * w + p) (N (6 * w + p) + j)) (N 41) H && decide (pS N (N 41) H p < pS (up N (6 * w + p) (N (6 * w + p) + j)) (N 41) H p)) = false) ∧ K 0 (nI p) (nI H) (nI (pS N (N 41) H p)) (nI (6 * w + p)) (nI (i + 1)) b2 = K 0 (nI p) (nI H) (nI (pS N (N 41) H p)) (nI (6 * w + p)) (nI (i + 1)) s' := fun hz => by
                refine ⟨b2, ⟨kp, ⟨_, a2b⟩, by omega, fun j h5 h6 => ?_⟩, rfl⟩
                by_cases ej : j = i
                · rw [ej]
                  exact hz
                · exact c4 j h5 (by omega)
              by_cases k2 : okHb (up N (6 * w + p) (N (6 * w + p) + i)) (N 41) H = true
              · have hq := pS_le vi k2 hp6
                rw [if_pos k2, if_neg one_ne, show b2.1 (0 + 36 + 10) p = _ from (ec2 k2).2.2 p hp6]
                by_cases hlt : pS N (N 41) H p < pS (up N (6 * w + p) (N (6 * w + p) + i)) (N 41) H p
                · right
                  rw [if_neg (by rw [nI_leI (by omega) (by omega)]; omega)]
                  refine ⟨_, rfl, ?_, kp⟩
                  show nI i = _
                  unfold neeN
                  rw [ff_some (c := fun d => okHb (up N (6 * w + p) (N (6 * w + p) + d)) (N 41) H && decide (pS N (N 41) H p < pS (up N (6 * w + p) (N (6 * w + p) + d)) (N 41) H p)) c3 (by omega) c4 (by rw [k2]; simp [hlt])]
                  rfl
                · left
                  rw [if_pos (nI_le (by omega) (by omega))]
                  exact go (by simp [hlt])
              · left
                rw [if_neg k2, if_pos rfl]
                exact go (by simp [k2])
            · rintro K s ⟨c1, c2, c3, c4⟩
              have Rk := R2.keep hPK c1
              have ec0 : s.1 (0 + 1 + 1) (6 * w + p) = nI (N (6 * w + p)) := cast8 Rk.2.1 hk
              show ∃ q, f_X8_needs_65 K 0 (nI p) (nI H) (nI (pS N (N 41) H p)) (nI (6 * w + p)) (nI (min 300 (100000 - N (6 * w + p)) + 1)) s = some q ∧ _
              have hend : l5 (neeN N (6 * w + p) p H) = -5 := by
                unfold neeN
                rw [ff_none (fun j h5 h6 => c4 j h5 (by omega))]
                rfl
              unfold f_X8_needs_65
              by_cases h3 : 300 < min 300 (100000 - N (6 * w + p)) + 1
              · rw [if_pos (show (300 : Int32) < nI _ from nI_lt (a := 300) h3 (by omega))]
                exact ⟨_, rfl, hend.symm, c1⟩
              · rw [if_neg (show ¬ (300 : Int32) < nI _ from nI_nlt (a := 300) (by omega) (by decide)), if_pos (ix_nI hk (by decide)), nI_clamp (by omega), ec0, nI_add, if_pos (show (100000 : Int32) < nI _ from nI_lt (a := 100000) (by omega) (by omega))]
                exact ⟨_, rfl, hend.symm, c1⟩
          obtain ⟨⟨x, b3⟩, e3, c3, f3⟩ := L8
          dsimp only at c3 f3
          subst c3
          have R3 := R2.keep hPK f3
          obtain ⟨o, e9, k9⟩ := first9 b3 R3
          rw [if_pos k1] at e9
          have R4 := R3.keep hPK k9
          have L9 : ∃ q, lp (F := Nat → Int32 → Int32 → Int32 → Int32 → Int32 → Int32 → Hp → Option (Int32 × Hp)) (fun _ _ _ _ _ _ _ _ => none) f_X9_needs_58 1000 108 (nI w) (nI p) (nI H) (nI (N (6 * w + p))) (nI (pS N (N 41) H p)) (nI 1) o = some q ∧ (q.1 = l5 (neeN N (6 * w + p) p H) ∧ Keep o q.2) := by
            refine lp_invE (F := Nat → Int32 → Int32 → Int32 → Int32 → Int32 → Int32 → Hp → Option (Int32 × Hp)) (bot := fun _ _ _ _ _ _ _ _ => none) (G := f_X9_needs_58) (fun K i (s : Hp) => K 108 (nI w) (nI p) (nI H) (nI (N (6 * w + p))) (nI (pS N (N 41) H p)) (nI i) s) (min 300 (100000 - N (6 * w + p)) + 1) (fun i s => Keep o s ∧ 1 ≤ i ∧ ∀ j, 1 ≤ j → j < i → (okHb (up N (6 * w + p) (N (6 * w + p) + j)) (N 41) H && decide (pS N (N 41) H p < pS (up N (6 * w + p) (N (6 * w + p) + j)) (N 41) H p)) = false) _ ?_ ?_ 1000 1 o (by omega) (by omega) ⟨Keep.refl, Nat.le_refl 1, fun j h1 h2 => by omega⟩
            · rintro K i s hi ⟨c1, c3, c4⟩
              have Rk := R4.keep hPK c1
              have vi := Vn_vote v (u := N (6 * w + p) + i) hk (by omega)
              obtain ⟨o2, e2, k2⟩ := sup9 (u := N (6 * w + p) + i) Rk.2.2.1 (show w < 4 by omega) hp6 vi hH
              show (∃ s', _ ∧ f_X9_needs_58 K 108 (nI w) (nI p) (nI H) (nI (N (6 * w + p))) (nI (pS N (N 41) H p)) (nI i) s = _) ∨ ∃ q, f_X9_needs_58 K 108 (nI w) (nI p) (nI H) (nI (N (6 * w + p))) (nI (pS N (N 41) H p)) (nI i) s = some q ∧ _
              unfold f_X9_needs_58
              rw [if_neg (show ¬ (300 : Int32) < nI i from nI_nlt (a := 300) (by omega) (by decide)), nI_add, if_neg (show ¬ (100000 : Int32) < nI (N (6 * w + p) + i) from nI_nlt (a := 100000) (by omega) (by decide)), e2]
              simp only [Option.bind_some, lt, nI_1]
              have go : (okHb (up N (6 * w + p) (N (6 * w + p) + i)) (N 41) H && decide (pS N (N 41) H p < pS (up N (6 * w + p) (N (6 * w + p) + i)) (N 41) H p)) = false → ∃ s', (Keep o s' ∧ 1 ≤ i + 1 ∧ ∀ j, 1 ≤ j → j < i + 1 → (okHb (up N (6 * w + p) (N (6 * w + p) + j)) (N 41) H && decide (pS N (N 41) H p < pS (up N (6 * w + p) (N (6 * w + p) + j)) (N 41) H p)) = false) ∧ K 108 (nI w) (nI p) (nI H) (nI (N (6 * w + p))) (nI (pS N (N 41) H p)) (nI (i + 1)) o2 = K 108 (nI w) (nI p) (nI H) (nI (N (6 * w + p))) (nI (pS N (N 41) H p)) (nI (i + 1)) s' := fun hz => by
                refine ⟨o2, ⟨c1.trans k2, by omega, fun j h5 h6 => ?_⟩, rfl⟩
                by_cases ej : j = i
                · rw [ej]
                  exact hz
                · exact c4 j h5 (by omega)
              by_cases kk : okHb (up N (6 * w + p) (N (6 * w + p) + i)) (N 41) H = true
              · have hq := pS_le vi kk hp6
                rw [if_pos kk]
                by_cases hlt : pS N (N 41) H p < pS (up N (6 * w + p) (N (6 * w + p) + i)) (N 41) H p
                · right
                  rw [if_neg (by rw [nI_leI (by omega) (by omega)]; omega)]
                  refine ⟨_, rfl, ?_, c1.trans k2⟩
                  show nI i = _
                  unfold neeN
                  rw [ff_some (c := fun d => okHb (up N (6 * w + p) (N (6 * w + p) + d)) (N 41) H && decide (pS N (N 41) H p < pS (up N (6 * w + p) (N (6 * w + p) + d)) (N 41) H p)) c3 (by omega) c4 (by rw [kk]; simp [hlt])]
                  rfl
                · left
                  rw [if_pos (nI_le (by omega) (by omega))]
                  exact go (by simp [hlt])
              · left
                rw [if_neg kk, if_pos (show (-3 : Int32) ≤ nI (pS N (N 41) H p) from Int32.le_trans (show (-3 : Int32) ≤ 0 by decide) (nI_pos' (by omega)))]
                exact go (by simp [kk])
            · rintro K s ⟨c1, c3, c4⟩
              show ∃ q, f_X9_needs_58 K 108 (nI w) (nI p) (nI H) (nI (N (6 * w + p))) (nI (pS N (N 41) H p)) (nI (min 300 (100000 - N (6 * w + p)) + 1)) s = some q ∧ _
              have hend : l5 (neeN N (6 * w + p) p H) = -5 := by
                unfold neeN
                rw [ff_none (fun j h5 h6 => c4 j h5 (by omega))]
                rfl
              unfold f_X9_needs_58
              by_cases h3 : 300 < min 300 (100000 - N (6 * w + p)) + 1
              · rw [if_pos (show (300 : Int32) < nI _ from nI_lt (a := 300) h3 (by omega))]
                exact ⟨_, rfl, hend.symm, c1⟩
              · rw [if_neg (show ¬ (300 : Int32) < nI _ from nI_nlt (a := 300) (by omega) (by decide)), nI_add, if_pos (show (100000 : Int32) < nI _ from nI_lt (a := 100000) (by omega) (by omega))]
                exact ⟨_, rfl, hend.symm, c1⟩
          obtain ⟨⟨x9, b9⟩, e10, c10, f10⟩ := L9
          dsimp only at c10 f10
          subst c10
          refine ⟨l5 (neeN N (6 * w + p) p H), b3, b9, ?_, ?_, ⟨N, R4.keep hPK f10⟩⟩
          · dsimp only
            unfold f_X8_needs
            simp only [w8i_3 _ hw, w8i_5 _ hp, Option.bind_some, one_ne, if_false, e, if_pos k1, if_true, ix6 hp6, cl6' hp6, lt, cell8, show f_X3_copyFrom (0 + 11) (0 + 1) b = _ from copy_11_1_eq b, show w * 6 + p = 6 * w + p by omega]
            rw [show b.1 (0 + 16 + 10) p = _ from (ec k1).2.2 p hp6]
            exact e3
          · dsimp only
            unfold f_X9_needs
            simp only [isWardi _ hw, isPartyi _ hp, isHousei _ hH, Option.bind_some, one_ne, if_false, votesOf9 R3.2.2.1 (show w < 4 by omega) hp6, e9]
            rw [if_neg (show ¬ nI (pS N (N 41) H p) = -3 from fun z => nI_pos (n := pS N (N 41) H p) (by omega) (by rw [z]; decide))]
            exact e10
        · obtain ⟨o, e9, k9⟩ := first9 b R1
          rw [if_neg k1] at e9
          refine ⟨-3, b, o, ?_, ?_, ⟨N, R1.keep hPK k9⟩⟩
          · dsimp only
            unfold f_X8_needs
            simp only [w8i_3 _ hw, w8i_5 _ hp, Option.bind_some, one_ne, if_false, e, if_neg k1, m3_ne]
          · dsimp only
            unfold f_X9_needs
            simp only [isWardi _ hw, isPartyi _ hp, isHousei _ hH, Option.bind_some, one_ne, if_false, votesOf9 R1.2.2.1 (show w < 4 by omega) hp6, e9, if_true]
      · refine same_op (r := -2) ⟨N, hR⟩ ?_ ?_
        · unfold f_X8_needs
          simp only [w8i_3 _ hw, w8i_5 _ hp, fillNow8o _ o3, Option.bind_some, one_ne, if_false, m2_ne]
        · unfold f_X9_needs
          simp only [isWardi _ hw, isPartyi _ hp, isHouseo _ o3, Option.bind_some, one_ne, if_false, if_true]
    · refine same_op (r := -1) ⟨N, hR⟩ ?_ ?_
      · unfold f_X8_needs
        simp only [w8i_3 _ hw, w8o_5 _ o2, Option.bind_some, one_ne, if_false, if_true]
      · unfold f_X9_needs
        simp only [isWardi _ hw, isPartyo _ o2, Option.bind_some, one_ne, if_false, if_true]
  · refine same_op (r := -1) ⟨N, hR⟩ ?_ ?_
    · unfold f_X8_needs
      simp only [w8o_3 _ o1, Option.bind_some, if_true]
    · unfold f_X9_needs
      simp only [isWardo _ o1, Option.bind_some, if_true]
end OPS4
