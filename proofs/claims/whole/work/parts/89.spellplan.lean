def kS (V : Nat → Nat) (k : Nat) (s : Tx) : Tx := wNu (if k = 0 then s else wr s (if k % 6 = 0 then 47 else 44)) (V k)
def spW (V : Nat → Nat) (w : Nat) (s : Tx) : Tx := fu (spI 44 (fun j => V (6 * w + j))) 6 (if w = 0 then s else wr s 47)
theorem kS_1 (V : Nat → Nat) (k : Nat) (s : Tx) : (kS V k s).1 ≤ s.1 + 3 := by
  unfold kS
  by_cases h : k = 0
  · rw [if_pos h]
    have := (wn_1 s (V k)).2
    omega
  · rw [if_neg h]
    have := (wn_1 (wr s (if k % 6 = 0 then 47 else 44)) (V k)).2
    rw [wr_1] at this
    omega
theorem fu_kS (V : Nat → Nat) (s : Tx) : ∀ k, (fu (kS V) k s).1 ≤ s.1 + 3 * k := by
  intro k
  induction k with
  | zero => exact Nat.le_refl _
  | succ k ih =>
    have := kS_1 V k (fu (kS V) k s)
    show (kS V k (fu (kS V) k s)).1 ≤ _
    omega
theorem kS_ward (V : Nat → Nat) (s : Tx) (w : Nat) : ∀ j, fu (kS V) (6 * w + (j + 1)) s = fu (spI 44 (fun j => V (6 * w + j))) (j + 1) (if w = 0 then fu (kS V) (6 * w) s else wr (fu (kS V) (6 * w) s) 47) ∨ 6 ≤ j := by
  intro j
  induction j with
  | zero =>
    left
    show kS V (6 * w) (fu (kS V) (6 * w) s) = spI 44 (fun j => V (6 * w + j)) 0 (if w = 0 then fu (kS V) (6 * w) s else wr (fu (kS V) (6 * w) s) 47)
    unfold kS spI
    rw [if_pos (Nat.mul_mod_right 6 w)]
    by_cases hw : w = 0
    · subst hw
      rfl
    · rw [if_neg (show ¬ 6 * w = 0 by omega), if_neg hw]
      rfl
  | succ j ih =>
    by_cases hj : 6 ≤ j + 1
    · exact Or.inr hj
    · left
      have e := ih.resolve_right (by omega)
      show kS V (6 * w + (j + 1)) (fu (kS V) (6 * w + (j + 1)) s) = spI 44 (fun j => V (6 * w + j)) (j + 1) (fu (spI 44 (fun j => V (6 * w + j))) (j + 1) (if w = 0 then fu (kS V) (6 * w) s else wr (fu (kS V) (6 * w) s) 47))
      rw [e]
      unfold kS
      rw [if_neg (show ¬ 6 * w + (j + 1) = 0 by omega), if_neg (show ¬ (6 * w + (j + 1)) % 6 = 0 by omega)]
      rfl
theorem spW_kS (V : Nat → Nat) (s : Tx) (w : Nat) : spW V w (fu (kS V) (6 * w) s) = fu (kS V) (6 * (w + 1)) s := by
  have := (kS_ward V s w 5).resolve_right (by decide)
  unfold spW
  rw [show 6 * (w + 1) = 6 * w + (5 + 1) by omega, this]
theorem spellP8 {h : Hp} {V : Nat → Nat} (hV : ∀ c, c < 24 → V c < 1000) (e : ∀ c, c < 24 → h.1 57 c = nI (V c)) {s : Tx} (p : P8 h s) (hs : s.1 = 0) : ∃ b, lp (F := Nat → Int32 → Hp → Option (Int32 × Hp)) (fun _ _ _ => none) f_X8_spellPlan_28 1000 0 0 h = some b ∧ (b.1 = nI (fu (kS V) 24 s).1 ∧ P8 b.2 (fu (kS V) 24 s) ∧ Fc 98 100 [] h b.2) := by
  refine lp_inv (F := Nat → Int32 → Hp → Option (Int32 × Hp)) (bot := fun _ _ _ => none) (G := f_X8_spellPlan_28) (fun K i (h : Hp) => K 0 (nI i) h) 4 (fun w h' => P8 h' (fu (kS V) (6 * w) s) ∧ Fc 98 100 [] h h') _ ?_ ?_ 1000 0 h (by omega) (by omega) ⟨p, Fc.refl⟩
  · rintro K w h1 hw ⟨c1, c2⟩
    have bd := fu_kS V s (6 * w)
    have e1 : ∀ h2 : Hp, Fc 98 100 [] h h2 → ∀ j, j < 6 → h2.1 57 (6 * w + j) = nI (V (6 * w + j)) := fun h2 f j hj => by rw [(f 57 (by omega) (by simp)).1]; exact e _ (by omega)
    have n46 : ∀ h2 t, P8 h2 t → t.1 ≤ 3 * (6 * w) + 1 → Fc 98 100 [] h h2 → ∃ h3, f_X8_spellPlan_46 K 0 (nI w) h2 = K 0 (nI (w + 1)) h3 ∧ P8 h3 (fu (spI 44 (fun j => V (6 * w + j))) 6 t) ∧ Fc 98 100 [] h h3 := fun h2 t q1 q2 q3 => by
      obtain ⟨⟨u, b⟩, e2, q⟩ := putSeats8 q1 (by omega) (a := 57) (f := 6 * w) ⟨by decide, by decide⟩ (by show 6 * w + 6 ≤ 24; omega) (by decide) (V := fun j => V (6 * w + j)) (fun j hj => hV _ (by omega)) (e1 h2 q3)
      have f2 := mf_X5_putSeats e2
      dsimp only at q f2
      unfold f_X8_spellPlan_46
      rw [show f_X8_cellOf (nI w) 0 h2 = some (nI (6 * w), h2) from cellw h2 w 0, Option.bind_some]
      dsimp only
      rw [show f_X5_putSeats (0 + 98) (0 + 56 + 1) (nI (6 * w)) h2 = _ from e2, Option.bind_some]
      dsimp only [lt]
      rw [nI_1]
      exact ⟨b, rfl, q, q3.trans f2⟩
    show ∃ s', _ ∧ f_X8_spellPlan_28 K 0 (nI w) h1 = _
    unfold f_X8_spellPlan_28
    rw [if_neg (show ¬ (4 : Int32) ≤ nI w from nI_ge (b := 4) hw (by decide))]
    by_cases h0 : w = 0
    · obtain ⟨h3, e3, q1, q2⟩ := n46 h1 _ c1 (by omega) c2
      rw [if_pos (show nI w ≤ 0 by rw [h0]; decide), e3]
      refine ⟨h3, ⟨?_, q2⟩, rfl⟩
      rw [← spW_kS]
      unfold spW
      rw [if_pos h0]
      exact q1
    · obtain ⟨h2, e2, q3⟩ := put8 c1 (by omega) 47
      have f2 := mf_X5_putByte e2
      obtain ⟨h3, e3, q1, q2⟩ := n46 h2 _ q3 (by rw [wr_1]; omega) (c2.trans f2)
      rw [if_neg (nI_nle (by omega) (by omega)), show f_X5_putByte (0 + 98) 47 h1 = _ from e2, Option.bind_some]
      dsimp only
      rw [e3]
      refine ⟨h3, ⟨?_, q2⟩, rfl⟩
      rw [← spW_kS]
      unfold spW
      rw [if_neg h0]
      exact q1
  · rintro K h1 ⟨c1, c2⟩
    show ∃ b, f_X8_spellPlan_28 K 0 (nI 4) h1 = some b ∧ _
    unfold f_X8_spellPlan_28
    rw [if_pos (show (4 : Int32) ≤ nI 4 by decide)]
    exact ⟨_, rfl, c1.1, c1, c2⟩
theorem spellP9 {h : Hp} {V : Nat → Nat} (hV : ∀ c, c < 24 → V c < 1000) (e : ∀ c, c < 24 → h.1 131 c = nI (V c)) {s : Tx} (p : P9 h s) (hs : s.1 = 0) : ∃ b, lp (F := Nat → Int32 → Hp → Option (Int32 × Hp)) (fun _ _ _ => none) f_X9_spellPlan_18 1000 108 0 h = some b ∧ (b.1 = nI (fu (kS V) 24 s).1 ∧ P9 b.2 (fu (kS V) 24 s) ∧ Fx [127] [28] h b.2) := by
  refine lp_inv (F := Nat → Int32 → Hp → Option (Int32 × Hp)) (bot := fun _ _ _ => none) (G := f_X9_spellPlan_18) (fun K i (h : Hp) => K 108 (nI i) h) 24 (fun i h' => P9 h' (fu (kS V) i s) ∧ Fx [127] [28] h h') _ ?_ ?_ 1000 0 h (by omega) (by omega) ⟨p, Fx.refl⟩
  · rintro K i h1 hi ⟨c1, c3⟩
    have hVi := hV i hi
    have b1 := fu_kS V s i
    show ∃ s', (P9 s' (kS V i (fu (kS V) i s)) ∧ Fx [127] [28] h s') ∧ f_X9_spellPlan_18 K 108 (nI i) h1 = K 108 (nI (i + 1)) s'
    generalize fu (kS V) i s = t at c1 b1
    have n46 : ∀ h2 t2, P9 h2 t2 → t2.1 + 1 < 96 → Fx [127] [28] h h2 → ∃ h3, f_X9_spellPlan_46 K 108 (nI i) h2 = K 108 (nI (i + 1)) h3 ∧ P9 h3 (wNu t2 (V i)) ∧ Fx [127] [28] h h3 := fun h2 t2 q1 q2 q3 => by
      obtain ⟨h3, e3, q4⟩ := num9 q1 q2 hVi
      unfold f_X9_spellPlan_46
      rw [if_pos (ix24 hi), nI_clamp (by omega), show h2.1 (108 + 23) i = nI (V i) by rw [q3.1 (108 + 23) (by decide) (by decide)]; exact e i hi, e3, Option.bind_some]
      dsimp only [lt]
      rw [nI_1]
      exact ⟨h3, rfl, q4, q3.trans (mf_X9_writesNumber e3)⟩
    unfold f_X9_spellPlan_18 f_X9_spellPlan_43
    rw [if_neg (show ¬ (24 : Int32) ≤ nI i from nI_ge (b := 24) hi (by decide))]
    by_cases h0 : i = 0
    · obtain ⟨h3, e3, q1, q2⟩ := n46 h1 t c1 (by omega) c3
      rw [if_pos (show nI i ≤ 0 by rw [h0]; decide), e3]
      refine ⟨h3, ⟨?_, q2⟩, rfl⟩
      unfold kS
      rw [if_pos h0]
      exact q1
    · rw [if_neg (nI_nle (by omega) (by omega)), if_neg (by decide), show (6 : Int32) = nI 6 from rfl, pk_rem (by omega) (by decide) (by decide)]
      by_cases h6 : i % 6 = 0
      · obtain ⟨h2, e2, q3⟩ := write9 c1 (by omega) 47
        obtain ⟨h3, e3, q1, q2⟩ := n46 h2 (wr t 47) q3 (by rw [wr_1]; omega) (c3.trans (mf_X9_writes e2))
        rw [if_pos (by rw [h6]; rfl), e2, Option.bind_some]
        dsimp only
        rw [e3]
        refine ⟨h3, ⟨?_, q2⟩, rfl⟩
        unfold kS
        rw [if_neg h0, if_pos h6]
        exact q1
      · obtain ⟨h2, e2, q3⟩ := write9 c1 (by omega) 44
        obtain ⟨h3, e3, q1, q2⟩ := n46 h2 (wr t 44) q3 (by rw [wr_1]; omega) (c3.trans (mf_X9_writes e2))
        rw [if_neg (nI_ne0 (by omega) (by omega)), e2, Option.bind_some]
        dsimp only
        rw [e3]
        refine ⟨h3, ⟨?_, q2⟩, rfl⟩
        unfold kS
        rw [if_neg h0, if_neg h6]
        exact q1
  · rintro K h1 ⟨c1, c3⟩
    show ∃ b, f_X9_spellPlan_18 K 108 (nI 24) h1 = some b ∧ _
    unfold f_X9_spellPlan_18
    rw [if_pos (show (24 : Int32) ≤ nI 24 by decide)]
    exact ⟨_, rfl, c1.1, c1, c3⟩
theorem spp8 {h b : Hp} {oc x : Int32} {o : Hp} (hz : 0 ≤ oc) (e : f_X2_settle 56 1 h = some (oc, b)) (q : lp (F := Nat → Int32 → Hp → Option (Int32 × Hp)) (fun _ _ _ => none) f_X8_spellPlan_28 1000 0 0 (sI b 98 1 0) = some (x, o)) : f_X8_spellPlan 0 h = some (x, o) := by
  generalize hl : lp (F := Nat → Int32 → Hp → Option (Int32 × Hp)) (fun _ _ _ => none) f_X8_spellPlan_28 1000 = LL at q
  unfold f_X8_spellPlan
  rw [hl, show f_X2_settle (0 + 56) (0 + 1) h = _ from e, Option.bind_some, if_pos hz]
  exact q
theorem spp9 {h b : Hp} {oc x : Int32} {o : Hp} (hz : 0 ≤ oc) (e : f_X9_solves 108 h = some (oc, b)) (q : lp (F := Nat → Int32 → Hp → Option (Int32 × Hp)) (fun _ _ _ => none) f_X9_spellPlan_18 1000 108 0 (sI b 108 28 0) = some (x, o)) : f_X9_spellPlan 108 h = some (x, o) := by
  generalize hl : lp (F := Nat → Int32 → Hp → Option (Int32 × Hp)) (fun _ _ _ => none) f_X9_spellPlan_18 1000 = LL at q
  unfold f_X9_spellPlan
  rw [hl, e, Option.bind_some, if_pos hz]
  exact q
theorem op_spellPlan : Op (Rel PKd) (fun h => f_X8_spellPlan 0 h) (fun h => f_X9_spellPlan 108 h) := by
  intro h ⟨N, hR⟩
  have v := hR.1
  obtain ⟨b, e, c, R1⟩ := settleR hR
  by_cases hz : 0 ≤ ocN N
  · have hc := oc_pos v hz
    have sb : ∀ k, k < 24 → (sol N).2 k < 1000 := fun k _ => by
      have := (sol_ok v).2.1 k
      omega
    have s0 : P8 (sI b 98 1 0) (0, fun _ => 0) := ⟨by rw [sI1, if_pos rfl, if_pos rfl]; rfl, fun i hi => absurd hi (Nat.not_lt_zero i)⟩
    obtain ⟨⟨x, b2⟩, e2, x2, q2, f2⟩ := spellP8 (h := sI b 98 1 0) sb (fun k hk => by rw [sI_row _ _ _ (by decide)]; exact (c.2.2 hc).2.2.2.2 k hk) s0 rfl
    dsimp only at x2 q2 f2
    have E8 := spp8 hz e e2
    have f3 : Fc 98 100 [] b b2 := (Fc_sI (lo := 98) (hi := 100) (X := []) Fc.refl rfl (Or.inl ⟨by decide, by decide⟩) : Fc 98 100 [] b (sI b 98 1 0)).trans f2
    -- the reference, from numbers that the paper alone tells from b
    have pk := R1.2.2.2.2.2.2.2.s
    obtain ⟨o1, g, d⟩ := solves9 v (h := b2) (R1.2.2.1.keep (f3 109 (by omega) (by simp)).1) (by
      unfold C9
      rw [(f3 108 (by omega) (by simp)).1, (f3 131 (by omega) (by simp)).1]
      exact pk.2)
    have fs : Fx SR SC b2 o1 := mf_X9_solves g
    have t0 : P9 (sI o1 108 28 0) (0, fun _ => 0) := ⟨by rw [sI1, if_pos rfl, if_pos rfl]; rfl, fun i hi => absurd hi (Nat.not_lt_zero i)⟩
    obtain ⟨⟨x9, o2⟩, e4, x4, q4, f4⟩ := spellP9 (h := sI o1 108 28 0) sb (fun k hk => by rw [sI_row _ _ _ (by decide)]; exact d.2.2 hc k hk) t0 rfl
    dsimp only at x4 q4 f4
    have E9 := spp9 hz g e4
    subst x2
    subst x4
    have f5 : Fx (127 :: SR) (28 :: SC) b2 o2 := ((fs.mono (by decide) (by decide)).trans (Fx_f Fx.refl rfl (by decide) : Fx (127 :: SR) (28 :: SC) o1 (sI o1 108 28 0))).trans (f4.mono (by decide) (by decide))
    have hb := fu_kS (sol N).2 (0, fun _ => 0) 24
    have kk : ∀ (A : List Nat) (C : List (Nat × Nat)), (∀ k ∈ A, (k < 98 ∨ 100 ≤ k) ∧ k ∉ ([] : List Nat)) → (∀ q ∈ C, (q.1 < 98 ∨ 100 ≤ q.1) ∧ q.1 ∉ ([] : List Nat)) → (∀ k ∈ A, k ∉ 127 :: SR ∧ k ≠ 108) → (∀ q ∈ C, (q.1 = 108 ∧ q.2 ∉ 28 :: SC) ∨ (q.1 ≠ 108 ∧ q.1 ∉ 127 :: SR)) → KeepL A C b o2 := fun A C h1 h2 h3 h4 => (KeepL.ofFc f3 h1 h2).trans (KeepL.ofFx f5 h3 h4)
    refine ⟨_, b2, o2, E8, E9, ⟨N, R1.of (kk _ _ (by decide) (by decide) (by decide) (by decide)) (RS.mk (by show _ ≤ 96; have : ((0, fun _ => 0) : Tx).1 = 0 := rfl; omega) ⟨?_, fun i hi => ?_⟩ q4) (R1.2.2.2.2.2.2.1.l (kk _ _ (by decide) (by decide) (by decide) (by decide))) (Or.inr ⟨Or.inr (c.x (fun r hr => ?_)), Or.inr ?_⟩)⟩⟩
    · rw [f5.1 98 (by decide) (by decide)]
      exact q2.1
    · rw [f5.1 99 (by decide) (by decide)]
      exact q2.2 i hi
    · rcases hr with rfl | rfl | rfl | rfl | rfl
      · rw [f5.1 56 (by decide) (by decide), (f3 56 (by omega) (by simp)).1]
      · rw [f5.1 57 (by decide) (by decide), (f3 57 (by omega) (by simp)).1]
      · rw [f5.1 58 (by decide) (by decide), (f3 58 (by omega) (by simp)).1]
      · rw [f5.1 67 (by decide) (by decide), (f3 67 (by omega) (by simp)).1]
      · rw [f5.1 77 (by decide) (by decide), (f3 77 (by omega) (by simp)).1]
    · unfold C9
      rw [f4.2.2 3 (by decide), f4.2.2 4 (by decide), f4.1 131 (by decide) (by decide), sI1, if_pos rfl, if_neg (by decide), sI1, if_pos rfl, if_neg (by decide), sI_row _ _ _ (by decide)]
      exact d
  · obtain ⟨o, g, d, R2, -⟩ := solvesR R1
    refine ⟨ocN N, b, o, ?_, ?_, ⟨N, R2⟩⟩
    · dsimp only
      unfold f_X8_spellPlan
      rw [show f_X2_settle (0 + 56) (0 + 1) h = _ from e, Option.bind_some, if_neg hz]
    · dsimp only
      unfold f_X9_spellPlan
      rw [g, Option.bind_some, if_neg hz]
