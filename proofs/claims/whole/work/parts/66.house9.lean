theorem Fx.po {L S : List Nat} {h h' : Hp} (c : Fx L S h h') {N : Nat → Nat} (a : Po h 109 N) (hr : 109 ∉ L) : Po h' 109 N := a.keep (c.1 109 hr (by decide))
theorem nar0 : vp_nar .boolean 0 = 0 := rfl
theorem nar1 : vp_nar .boolean 1 = 1 := rfl
theorem nobody9 (h : Hp) : ∃ b, f_X9_nobodyClaims 108 h = some b ∧ RfC b.2 (fun _ => false) (fun _ => 0) (fun _ => 0) := by
  unfold f_X9_nobodyClaims
  refine lp_inv (F := Nat → Int32 → Hp → Option (Unit × Hp)) (bot := fun _ _ _ => none) (G := f_X9_nobodyClaims_2) (fun K i (h : Hp) => K 108 (nI i) h) 6 (fun i h' => ∀ k, k < i → h'.1 113 k = 0 ∧ h'.1 114 k = 0 ∧ h'.1 115 k = 0) _ ?_ ?_ 1000 0 h (by omega) (by omega) (fun k hk => absurd hk (Nat.not_lt_zero k))
  · intro K i h' hi c
    refine ⟨sI (sI (sI h' 113 i 0) 114 i 0) 115 i 0, fun k hk => ?_, ?_⟩
    · simp [sI1]
      by_cases e : k = i
      · simp [e]
      · have q := c k (by omega)
        exact ⟨fun _ => q.1, fun _ => q.2.1, fun _ => q.2.2⟩
    · show f_X9_nobodyClaims_2 K 108 (nI i) h' = _
      unfold f_X9_nobodyClaims_2
      rw [if_neg (ge6 hi)]
      simp only [lt, ix6 hi, if_true, cl6' hi, nI_1, nar0]
  · intro K h' c
    show ∃ b, f_X9_nobodyClaims_2 K 108 (nI 6) h' = some b ∧ _
    unfold f_X9_nobodyClaims_2
    rw [if_pos (show (6 : Int32) ≤ nI 6 by decide)]
    exact ⟨((), h'), rfl, c⟩
theorem claims9 {h : Hp} {P : Nat → Bool} {W F : Nat → Nat} (hE : RfC h P W F) {k u l : Nat} (hk : k < 6) : ∃ h', f_X9_claims 108 (nI k) (nI u) (nI l) h = some ((), h') ∧ RfC h' (upB P k) (up W k (W k + u)) (up F k (F k + l)) := by
  unfold f_X9_claims
  simp only [lt, ix6 hk, if_true, cl6' hk, nar1]
  refine ⟨_, rfl, fun j hj => ?_⟩
  obtain ⟨c1, c2, c3⟩ := hE j hj
  obtain ⟨d1, d2, d3⟩ := hE k hk
  unfold upB
  simp only [sI1]
  by_cases e : j = k
  · subst e
    simp [up_self, c2, c3, nI_add]
  · simp [e, up_ne, c1, c2, c3]
/-- the reference's house -/
def RfHs (N : Nat → Nat) (w H : Nat) (h : Hp) : Prop := (∀ k, k < 6 → h.1 120 k = (if (PL N 6).1 k = true then 1 else 0) ∧ h.1 121 k = nI ((PL N 6).2.1 k) ∧ h.1 122 k = nI ((PL N 6).2.2 k) ∧ h.1 123 k = nI ((lst N w H).s k)) ∧ (∀ k, k < 6 → h.1 124 k = nI (pS N w H k)) ∧ h.1 108 24 = nI (lst N w H).c ∧ h.1 108 25 = (lst N w H).x ∧ ∀ i, i < (lst N w H).c → h.1 125 i = nI ((lst N w H).wt i)
theorem shares9 {N : Nat → Nat} (v : Vn N) {w : Nat} (hw : w ≤ 6) {H l : Nat} (hlb : l < 6) {h : Hp} (b : Po h 109 N) (h15 : h.1 123 l = nI ((lst N w H).s l)) (hs : (lst N w H).s l ≤ 60) : ∃ o, f_X9_sharesOut 108 (nI w) (nI l) h = some o ∧ ((mgv N w H l = none ∧ o.1 = 0) ∨ ∃ s2, mgv N w H l = some s2 ∧ o.1 = 1 ∧ ∀ k, k < 6 → o.2.1 124 k = if memS N l k = true then nI (s2.s k) else h.1 124 k) := by
  obtain ⟨b1, e1, c1⟩ := nobody9 h
  have f1 := mf_X9_nobodyClaims e1
  unfold f_X9_sharesOut
  rw [e1]
  simp only [Option.bind_some]
  refine lp_inv (F := Nat → Int32 → Int32 → Int32 → Hp → Option (Int32 × Hp)) (bot := fun _ _ _ _ _ => none) (G := f_X9_sharesOut_6) (fun K i (h : Hp) => K 108 (nI w) (nI l) (nI i) h) 6 (fun i h' => RfC h' (PM N l i).1 (PM N l i).2.1 (PM N l i).2.2 ∧ Fx [113, 114, 115] [] h h') _ ?_ ?_ 1000 0 b1.2 (by omega) (by omega) ⟨c1, f1⟩
  · rintro K i h' hi ⟨d1, d2⟩
    have b' := d2.po b (by decide)
    have l1 := lst_le v hi
    show ∃ s', _ ∧ f_X9_sharesOut_6 K 108 (nI w) (nI l) (nI i) h' = _
    unfold f_X9_sharesOut_6 f_X9_sharesOut_44
    rw [if_neg (ge6 hi), listOf9 b' hi]
    simp only [Option.bind_some]
    by_cases hL : N (34 + i) = l
    · rw [if_pos (by rw [hL]), isIn9 v b' hi]
      simp only [Option.bind_some]
      by_cases hI : isInN N i = true
      · have hM : memS N l i = true := by unfold memS; simp [hI, hL]
        obtain ⟨h2, g1, g2⟩ := claims9 d1 (k := i) (u := tot N i) (l := N (28 + i)) hi
        rw [if_pos hI, if_neg one_ne, tot9 b' hi]
        simp only [Option.bind_some]
        rw [leastOf9 b' hi]
        simp only [Option.bind_some]
        rw [g1]
        simp only [Option.bind_some, lt, nI_1]
        refine ⟨h2, ⟨?_, d2.trans (mf_X9_claims g1)⟩, rfl⟩
        unfold PM
        rw [ents_t hM]
        exact g2
      · have hM : ¬ memS N l i = true := by unfold memS; simp [hI]
        rw [if_neg hI, if_pos rfl]
        simp only [lt, nI_1]
        refine ⟨h', ⟨?_, d2⟩, rfl⟩
        unfold PM
        rw [ents_f hM]
        exact d1
    · have hM : ¬ memS N l i = true := by unfold memS; simp [hL]
      rw [if_neg (by rw [nI_eq (by omega) (by omega)]; exact hL)]
      simp only [lt, nI_1]
      refine ⟨h', ⟨?_, d2⟩, rfl⟩
      unfold PM
      rw [ents_f hM]
      exact d1
  · rintro K h' ⟨d1, d2⟩
    have b' := d2.po b (by decide)
    show ∃ b, f_X9_sharesOut_6 K 108 (nI w) (nI l) (nI 6) h' = some b ∧ _
    unfold f_X9_sharesOut_6
    obtain ⟨o, e2, g2⟩ := gives9 v hw (PM_z N l) (fun _ => PM_p N l) (PM_W v l) (PM_F v l) b' d1 hs
    have f2 := mf_X9_gives e2
    rw [if_pos (show (6 : Int32) ≤ nI 6 by decide), if_pos (ix6 hlb), cl6' hlb, show h'.1 (108 + 15) l = nI ((lst N w H).s l) by rw [d2.1 (108 + 15) (by decide) (by decide)]; exact h15, e2]
    simp only [Option.bind_some]
    rcases g2 with ⟨n1, n2, n3⟩ | ⟨s2, n1, n2, n3⟩
    · rw [if_pos n2, if_pos isB0]
      exact ⟨_, rfl, Or.inl ⟨n1, rfl⟩⟩
    · rw [if_neg (by rw [n2]; decide)]
      refine lp_inv (F := Nat → Int32 → Hp → Option (Int32 × Hp)) (bot := fun _ _ _ => none) (G := f_X9_sharesOut_68) (fun K i (h : Hp) => K 108 (nI i) h) 6 (fun i h' => Fx [124] [] o.2 h' ∧ ∀ k, k < 6 → h'.1 124 k = if k < i ∧ memS N l k = true then nI (s2.s k) else h.1 124 k) _ ?_ ?_ 1000 0 o.2 (by omega) (by omega) ⟨Fx.refl, fun k hk => by rw [f2.1 124 (by decide) (by decide), d2.1 124 (by decide) (by decide), if_neg (fun z => Nat.not_lt_zero k z.1)]⟩
      · rintro K i h3 hi ⟨u1, u2⟩
        obtain ⟨k1, k2, k3, k4⟩ := n3.1 i hi
        have y5 : h3.1 (108 + 5) i = if (PM N l 6).1 i = true then 1 else 0 := by rw [u1.1 (108 + 5) (by decide) (by decide)]; exact k1
        have y8 : h3.1 (108 + 8) i = nI (s2.s i) := by rw [u1.1 (108 + 8) (by decide) (by decide)]; exact k4
        show ∃ s', _ ∧ f_X9_sharesOut_68 K 108 (nI i) h3 = _
        unfold f_X9_sharesOut_68 f_X9_sharesOut_103
        rw [if_neg (ge6 hi)]
        simp only [ix6 hi, if_true, cl6' hi, lt, nI_1, y5, y8]
        by_cases hM : memS N l i = true
        · rw [if_pos ((PM_iff hi).mpr hM), if_neg one_ne]
          refine ⟨_, ⟨Fx_sI u1 rfl (by decide), fun k hk => ?_⟩, rfl⟩
          rw [sI1, if_pos rfl]
          by_cases ek : k = i
          · rw [if_pos ek, if_pos ⟨by omega, by rw [ek]; exact hM⟩, ek]
          · rw [if_neg ek, u2 k hk]
            by_cases q : k < i ∧ memS N l k = true
            · rw [if_pos q, if_pos ⟨by omega, q.2⟩]
            · rw [if_neg q, if_neg (fun z => q ⟨by omega, z.2⟩)]
        · rw [if_neg (fun z => hM ((PM_iff hi).mp z)), if_pos rfl]
          refine ⟨_, ⟨Fx_sI u1 rfl (by decide), fun k hk => ?_⟩, rfl⟩
          rw [sI1, if_pos rfl]
          by_cases ek : k = i
          · rw [if_pos ek, if_neg (fun z => hM (by rw [← ek]; exact z.2)), show h3.1 (108 + 16) i = _ from u2 i hi, if_neg (fun z => Nat.lt_irrefl i z.1), ek]
          · rw [if_neg ek, u2 k hk]
            by_cases q : k < i ∧ memS N l k = true
            · rw [if_pos q, if_pos ⟨by omega, q.2⟩]
            · rw [if_neg q, if_neg (fun z => q ⟨by omega, z.2⟩)]
      · rintro K h3 ⟨u1, u2⟩
        show ∃ b, f_X9_sharesOut_68 K 108 (nI 6) h3 = some b ∧ _
        unfold f_X9_sharesOut_68
        rw [if_pos (show (6 : Int32) ≤ nI 6 by decide), if_pos isB1]
        refine ⟨_, rfl, Or.inr ⟨s2, n1, rfl, fun k hk => ?_⟩⟩
        show h3.1 124 k = _
        rw [u2 k hk]
        by_cases q : memS N l k = true
        · rw [if_pos ⟨hk, q⟩, if_pos q]
        · rw [if_neg (fun z => q z.2), if_neg q]
theorem houses9 {N : Nat → Nat} (v : Vn N) {w : Nat} (hw : w ≤ 6) {h : Hp} (b : Po h 109 N) {H : Nat} (hH : H ≤ 60) : ∃ o, f_X9_houses 108 (nI w) (nI H) h = some o ∧ ((okH N w H ∧ o.1 = 1 ∧ RfHs N w H o.2) ∨ (¬ okH N w H ∧ o.1 = 0)) := by
  obtain ⟨b1, e1, c1⟩ := nobody9 h
  have f1 := mf_X9_nobodyClaims e1
  unfold f_X9_houses
  rw [e1]
  simp only [Option.bind_some]
  refine lp_inv (F := Nat → Int32 → Int32 → Int32 → Hp → Option (Int32 × Hp)) (bot := fun _ _ _ _ _ => none) (G := f_X9_houses_6) (fun K i (h : Hp) => K 108 (nI w) (nI H) (nI i) h) 6 (fun i h' => RfC h' (PL N i).1 (PL N i).2.1 (PL N i).2.2 ∧ Fx [113, 114, 115, 124] [] h h' ∧ ∀ k, k < i → h'.1 124 k = 0) _ ?_ ?_ 1000 0 b1.2 (by omega) (by omega) ⟨c1, f1.mono (by decide) (by decide), fun k hk => absurd hk (Nat.not_lt_zero k)⟩
  · rintro K i h' hi ⟨d1, d2, d3⟩
    have f3 : Fx [113, 114, 115, 124] [] h (sI h' 124 i 0) := Fx_sI d2 rfl (by decide)
    have b' := f3.po b (by decide)
    have r3 : RfC (sI h' 124 i 0) (PL N i).1 (PL N i).2.1 (PL N i).2.2 := fun k hk => by
      rw [sI_row _ _ _ (by decide), sI_row _ _ _ (by decide), sI_row _ _ _ (by decide)]
      exact d1 k hk
    have z3 : ∀ k, k < i + 1 → (sI h' 124 i 0).1 124 k = 0 := fun k hk => by
      rw [sI1, if_pos rfl]
      by_cases ek : k = i
      · rw [if_pos ek]
      · rw [if_neg ek]
        exact d3 k (by omega)
    show ∃ s', _ ∧ f_X9_houses_6 K 108 (nI w) (nI H) (nI i) h' = _
    unfold f_X9_houses_6 f_X9_houses_46
    rw [if_neg (ge6 hi), if_pos (ix6 hi), cl6' hi]
    simp only [lt, show 108 + 16 = 124 from rfl]
    rw [isIn9 v b' hi]
    simp only [Option.bind_some]
    by_cases hI : isInN N i = true
    · obtain ⟨h2, g1, g2⟩ := claims9 r3 (k := N (34 + i)) (u := tot N i) (l := N (28 + i)) (lst_le v hi)
      have fg := mf_X9_claims g1
      rw [if_pos hI, if_neg one_ne, listOf9 b' hi]
      simp only [Option.bind_some]
      rw [tot9 b' hi]
      simp only [Option.bind_some]
      rw [leastOf9 b' hi]
      simp only [Option.bind_some]
      rw [g1]
      simp only [Option.bind_some, nI_1]
      refine ⟨h2, ⟨?_, f3.trans (fg.mono (by decide) (by decide)), fun k hk => ?_⟩, rfl⟩
      · unfold PL
        rw [ents_t hI]
        exact g2
      · rw [fg.1 124 (by decide) (by decide)]
        exact z3 k hk
    · rw [if_neg hI, if_pos rfl]
      simp only [nI_1]
      refine ⟨_, ⟨?_, f3, z3⟩, rfl⟩
      unfold PL
      rw [ents_f hI]
      exact r3
  · rintro K h' ⟨d1, d2, d3⟩
    have b' := d2.po b (by decide)
    show ∃ b, f_X9_houses_6 K 108 (nI w) (nI H) (nI 6) h' = some b ∧ _
    unfold f_X9_houses_6
    obtain ⟨o, e2, g2⟩ := gives9 v hw (PL_z N) (fun _ => PL_p N) (PL_W v) (PL_F v) b' d1 hH
    have f2 := mf_X9_gives e2
    rw [if_pos (show (6 : Int32) ≤ nI 6 by decide), e2]
    simp only [Option.bind_some]
    -- how many went
    have h14 : ∃ c, c ≤ 60 ∧ o.2.1 108 14 = nI c := by
      rcases g2 with ⟨n1, n2, n3⟩ | ⟨st, n1, n2, n3⟩
      · exact ⟨0, by omega, n3⟩
      · have := (gvN_ok (PL_z N) n1).2.1
        exact ⟨st.c, by omega, n3.2.1⟩
    obtain ⟨c, hc, h14⟩ := h14
    refine lp_inv (F := Nat → Int32 → Int32 → Int32 → Hp → Option (Int32 × Hp)) (bot := fun _ _ _ _ _ => none) (G := f_X9_houses_62) (fun K i (h : Hp) => K 108 (nI w) o.1 (nI i) h) 6 (fun i h' => Fx [120, 121, 122, 123] [] o.2 h' ∧ ∀ k, k < i → h'.1 120 k = vp_nar .boolean (o.2.1 113 k) ∧ h'.1 121 k = o.2.1 114 k ∧ h'.1 122 k = o.2.1 115 k ∧ h'.1 123 k = o.2.1 116 k) _ ?_ ?_ 1000 0 o.2 (by omega) (by omega) ⟨Fx.refl, fun k hk => absurd hk (Nat.not_lt_zero k)⟩
    · rintro K i h3 hi ⟨u1, u2⟩
      have r : ∀ k, k ∉ [120, 121, 122, 123] → k ≠ 108 → h3.1 k = o.2.1 k := u1.1
      refine ⟨sI (sI (sI (sI h3 120 i (vp_nar .boolean (o.2.1 113 i))) 121 i (o.2.1 114 i)) 122 i (o.2.1 115 i)) 123 i (o.2.1 116 i), ⟨Fx_sI (Fx_sI (Fx_sI (Fx_sI u1 rfl (by decide)) rfl (by decide)) rfl (by decide)) rfl (by decide), fun k hk => ?_⟩, ?_⟩
      · simp only [sI1]
        by_cases ek : k = i
        · subst ek
          simp
        · simp [ek]
          exact u2 k (by omega)
      · show f_X9_houses_62 K 108 (nI w) o.1 (nI i) h3 = _
        unfold f_X9_houses_62
        rw [if_neg (ge6 hi)]
        simp only [ix6 hi, if_true, cl6' hi, lt, nI_1]
        simp only [show 108 + 12 = 120 from rfl, show 108 + 13 = 121 from rfl, show 108 + 14 = 122 from rfl, show 108 + 15 = 123 from rfl, show 108 + 5 = 113 from rfl, show 108 + 6 = 114 from rfl, show 108 + 7 = 115 from rfl, show 108 + 8 = 116 from rfl]
        have q : ∀ (x : Int32) (a k : Nat), (k = 114 ∨ k = 115 ∨ k = 116) → (a = 120 ∨ a = 121 ∨ a = 122) → ∀ h : Hp, (sI h a i x).1 k = h.1 k := fun x a k hk ha h => sI_row _ _ _ (by omega)
        rw [q _ 122 116 (by omega) (by omega), q _ 121 116 (by omega) (by omega), q _ 120 116 (by omega) (by omega), q _ 121 115 (by omega) (by omega), q _ 120 115 (by omega) (by omega), q _ 120 114 (by omega) (by omega), r 113 (by decide) (by decide), r 114 (by decide) (by decide), r 115 (by decide) (by decide), r 116 (by decide) (by decide)]
    · rintro K h3 ⟨u1, u2⟩
      have t14 : h3.1 108 14 = nI c := by rw [u1.2.2 14 (by decide), h14]
      show ∃ b, f_X9_houses_62 K 108 (nI w) o.1 (nI 6) h3 = some b ∧ _
      unfold f_X9_houses_62
      rw [if_pos (show (6 : Int32) ≤ nI 6 by decide)]
      simp only [lt]
      generalize hh4 : sI (sI h3 108 24 (h3.1 108 14)) 108 25 ((sI h3 108 24 (h3.1 108 14)).1 108 15) = h4
      have r4 : ∀ k, k ≠ 108 → h4.1 k = h3.1 k := fun k hk => by rw [← hh4, sI_row _ _ _ hk, sI_row _ _ _ hk]
      have x24 : h4.1 108 24 = nI c := by rw [← hh4, t14]; simp [sI1]
      have x25 : h4.1 108 25 = o.2.1 108 15 := by rw [← hh4, ← u1.2.2 15 (by decide)]; simp [sI1]
      have x14 : h4.1 108 14 = nI c := by rw [← hh4, ← t14]; simp [sI1]
      refine lp_inv (F := Nat → Int32 → Int32 → Int32 → Hp → Option (Int32 × Hp)) (bot := fun _ _ _ _ _ => none) (G := f_X9_houses_150) (fun K i (h : Hp) => K 108 (nI w) o.1 (nI i) h) c (fun i h' => Fx [125] [] h4 h' ∧ ∀ k, k < i → h'.1 125 k = o.2.1 117 k) _ ?_ ?_ 1000 0 h4 (by omega) (by omega) ⟨Fx.refl, fun k hk => absurd hk (Nat.not_lt_zero k)⟩
      · rintro K i h5 hi ⟨w1, w2⟩
        refine ⟨sI h5 125 i (o.2.1 117 i), ⟨Fx_sI w1 rfl (by decide), fun k hk => ?_⟩, ?_⟩
        · rw [sI1, if_pos rfl]
          by_cases ek : k = i
          · rw [if_pos ek, ek]
          · rw [if_neg ek]
            exact w2 k (by omega)
        · show f_X9_houses_150 K 108 (nI w) o.1 (nI i) h5 = _
          unfold f_X9_houses_150
          rw [w1.2.2 14 (by decide), x14, if_neg (nI_ge hi (by omega)), if_pos (ix_nI (by omega) (by decide)), if_pos (ix_nI (by omega) (by decide)), nI_clamp (by omega)]
          simp only [lt, nI_1, show 108 + 17 = 125 from rfl, show 108 + 9 = 117 from rfl]
          rw [w1.1 117 (by decide) (by decide), r4 117 (by decide), u1.1 117 (by decide) (by decide)]
      · rintro K h5 ⟨w1, w2⟩
        show ∃ b, f_X9_houses_150 K 108 (nI w) o.1 (nI c) h5 = some b ∧ _
        unfold f_X9_houses_150
        rw [w1.2.2 14 (by decide), x14, if_pos (nI_le (Nat.le_refl c) (by omega))]
        have b5 : Po h5 109 N := w1.po ((u1.po (f2.po b' (by decide)) (by decide)).keep (r4 109 (by decide))) (by decide)
        have r5 : ∀ k, k ∉ [120, 121, 122, 123, 125] → k ≠ 108 → h5.1 k = o.2.1 k := fun k h1 h2 => by
          rw [w1.1 k (fun z => h1 (by simp at z; simp [z])) h2, r4 k h2, u1.1 k (fun z => h1 (by simp at z; simp; omega)) h2]
        rcases g2 with ⟨n1, n2, n3⟩ | ⟨st, n1, n2, n3⟩
        · rw [n2]
          show ∃ b, f_X9_houses_182 _ 108 (nI w) 0 (nI 0) h5 = some b ∧ _
          unfold f_X9_houses_182
          rw [if_pos rfl, if_pos isB0]
          refine ⟨_, rfl, Or.inr ⟨fun z => ?_, rfl⟩⟩
          have := z.1
          unfold lgv at this
          rw [n1] at this
          cases this
        · rw [n2]
          obtain ⟨o1, o2, o3, o4⟩ := lst_ok (N := N) (w := w) (H := H) n1
          rw [← o1] at n3
          have hc2 : c = (lst N w H).c := by
            have := n3.2.1
            rw [h14, nI_eq (by omega) (by omega)] at this
            exact this
          have y : ∀ k, k < 6 → h5.1 120 k = (if (PL N 6).1 k = true then 1 else 0) ∧ h5.1 121 k = nI ((PL N 6).2.1 k) ∧ h5.1 122 k = nI ((PL N 6).2.2 k) ∧ h5.1 123 k = nI ((lst N w H).s k) := fun k hk => by
            obtain ⟨k1, k2, k3, k4⟩ := n3.1 k hk
            obtain ⟨j1, j2, j3, j4⟩ := u2 k hk
            rw [w1.1 120 (by decide) (by decide), w1.1 121 (by decide) (by decide), w1.1 122 (by decide) (by decide), w1.1 123 (by decide) (by decide), r4 120 (by decide), r4 121 (by decide), r4 122 (by decide), r4 123 (by decide), j1, j2, j3, j4, k1, k2, k3, k4]
            refine ⟨?_, rfl, rfl, rfl⟩
            by_cases q : (PL N 6).1 k = true
            · rw [if_pos q]
              rfl
            · rw [if_neg q]
              rfl
          refine lp_invE (F := Nat → Int32 → Int32 → Int32 → Hp → Option (Int32 × Hp)) (bot := fun _ _ _ _ _ => none) (G := f_X9_houses_182) (fun K i (s : Int32 × Hp) => K 108 (nI w) s.1 (nI i) s.2) 6 (fun i s => (s.1 = 0 ∧ ¬ okH N w H) ∨ (s.1 = 1 ∧ Fx [113, 114, 115, 116, 117, 118, 119, 124] [14, 15] h5 s.2 ∧ (∀ k, k < 6 → s.2.1 124 k = nI (pSi N w H i k)) ∧ ∀ l, l < i → (mgv N w H l).isSome = true)) _ ?_ ?_ 1000 0 (1, h5) (by omega) (by omega) (Or.inr ⟨rfl, Fx.refl, fun k hk => by
            show h5.1 124 k = _
            rw [r5 124 (by decide) (by decide), f2.1 124 (by decide) (by decide), d3 k hk, pSi_0]
            rfl, fun l hl => absurd hl (Nat.not_lt_zero l)⟩)
          · rintro K i ⟨x, h6⟩ hi (⟨x0, nk⟩ | ⟨x1, a1, a2, a3⟩)
            · right
              dsimp only at x0
              subst x0
              show ∃ b, f_X9_houses_182 K 108 (nI w) 0 (nI i) h6 = some b ∧ _
              unfold f_X9_houses_182
              rw [if_pos rfl, if_pos isB0]
              exact ⟨_, rfl, Or.inr ⟨nk, rfl⟩⟩
            · left
              dsimp only at x1 a1 a2
              subst x1
              have y6 : h6.1 (108 + 12) i = (if (PL N 6).1 i = true then 1 else 0) := by rw [a1.1 (108 + 12) (by decide) (by decide)]; exact (y i hi).1
              show ∃ s' : Int32 × Hp, _ ∧ f_X9_houses_182 K 108 (nI w) 1 (nI i) h6 = K 108 (nI w) s'.1 (nI (i + 1)) s'.2
              unfold f_X9_houses_182 f_X9_houses_213 f_X9_houses_218
              rw [if_neg one_ne, if_neg (ge6 hi), if_pos (ix6 hi), cl6' hi, y6]
              simp only [lt, nI_1]
              by_cases hP : (PL N 6).1 i = true
              · rw [if_pos hP, if_neg one_ne]
                have hs : (lst N w H).s i ≤ 60 := by
                  have := sF_le (F := (lst N w H).s) hi
                  omega
                obtain ⟨q, e7, g7⟩ := shares9 v hw hi (a1.po b5 (by decide)) (by rw [a1.1 123 (by decide) (by decide)]; exact (y i hi).2.2.2) hs
                have f7 := mf_X9_sharesOut e7
                rw [e7]
                simp only [Option.bind_some]
                rcases g7 with ⟨m1, m2⟩ | ⟨s2, m1, m2, m3⟩
                · rw [if_pos m2]
                  refine ⟨(0, q.2), Or.inl ⟨rfl, fun z => ?_⟩, rfl⟩
                  have := z.2 i hi
                  rw [m1] at this
                  cases this
                · rw [if_neg (by rw [m2]; decide)]
                  refine ⟨(1, q.2), Or.inr ⟨rfl, a1.trans (f7.mono (by decide) (by decide)), fun k hk => ?_, fun l hl => ?_⟩, rfl⟩
                  · show q.2.1 124 k = _
                    rw [m3 k hk]
                    have ps := pSi_step m1 hk
                    by_cases hm : memS N i k = true
                    · rw [if_pos hm, ps.2.1 hm]
                    · rw [if_neg hm, ps.2.2 hm]
                      exact a2 k hk
                  · by_cases el : l = i
                    · rw [el, m1]
                      rfl
                    · exact a3 l (by omega)
              · rw [if_neg hP, if_pos rfl]
                have hPf : (PL N 6).1 i = false := by simpa using hP
                have nm : ∀ k, k < 6 → ¬ memS N i k = true := fun k hk z => by
                  obtain ⟨z1, z2⟩ := mem_in z
                  exact hP ((ents_P 6).mpr ⟨k, hk, z1, z2⟩)
                have hz : (lst N w H).s i = 0 := o4 i hi hPf
                have hm : mgv N w H i = some (gs0 (PM N i 6).2.2) := by
                  unfold mgv gvN
                  rw [hz, if_neg (fun z => by
                    obtain ⟨k, k1, k2⟩ := anyP_t z
                    exact nm k k1 ((PM_iff k1).mp k2)), if_pos rfl]
                refine ⟨(1, h6), Or.inr ⟨rfl, a1, fun k hk => ?_, fun l hl => ?_⟩, rfl⟩
                · rw [(pSi_step hm hk).2.2 (nm k hk)]
                  exact a2 k hk
                · by_cases el : l = i
                  · rw [el, hm]
                    rfl
                  · exact a3 l (by omega)
          · rintro K ⟨x, h6⟩ (⟨x0, nk⟩ | ⟨x1, a1, a2, a3⟩)
            · dsimp only at x0
              subst x0
              show ∃ b, f_X9_houses_182 K 108 (nI w) 0 (nI 6) h6 = some b ∧ _
              unfold f_X9_houses_182
              rw [if_pos rfl, if_pos isB0]
              exact ⟨_, rfl, Or.inr ⟨nk, rfl⟩⟩
            · dsimp only at x1 a1 a2
              subst x1
              show ∃ b, f_X9_houses_182 K 108 (nI w) 1 (nI 6) h6 = some b ∧ _
              unfold f_X9_houses_182
              rw [if_neg one_ne, if_pos (show (6 : Int32) ≤ nI 6 by decide), if_pos isB1]
              refine ⟨_, rfl, Or.inl ⟨⟨?_, a3⟩, rfl, fun k hk => ?_, fun k hk => ?_, ?_, ?_, fun i hi => ?_⟩⟩
              · unfold lgv
                rw [n1]
                rfl
              · show h6.1 120 k = _ ∧ h6.1 121 k = _ ∧ h6.1 122 k = _ ∧ h6.1 123 k = _
                rw [a1.1 120 (by decide) (by decide), a1.1 121 (by decide) (by decide), a1.1 122 (by decide) (by decide), a1.1 123 (by decide) (by decide)]
                exact y k hk
              · show h6.1 124 k = _
                rw [a2 k hk, pSi_6 v w H hk]
              · show h6.1 108 24 = _
                rw [a1.2.2 24 (by decide), w1.2.2 24 (by decide), x24, hc2]
              · show h6.1 108 25 = _
                rw [a1.2.2 25 (by decide), w1.2.2 25 (by decide), x25]
                exact n3.2.2.2
              · show h6.1 125 i = _
                rw [a1.1 125 (by decide) (by decide), w2 i (by omega)]
                exact n3.2.2.1 i hi
