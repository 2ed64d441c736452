theorem Po.ext {h : Hp} {n : Nat} {N M : Nat → Nat} (a : Po h n N) (e : ∀ k, k < 44 → N k = M k) : Po h n M := fun k hk => by rw [← e k hk]; exact a k hk
theorem ovl_none {N : Nat → Nat} {D : Nat → Option Nat} {k : Nat} (h : D k = none) : ovl N D k = N k := by
  unfold ovl
  rw [h]
  rfl
theorem ovl_some {N : Nat → Nat} {D : Nat → Option Nat} {k v : Nat} (h : D k = some v) : ovl N D k = v := by
  unfold ovl
  rw [h]
  rfl
theorem Dok.n {D : Nat → Option Nat} (d : Dok D) {k : Nat} (hk : 24 ≤ k) : D k = none := by
  cases e : D k with
  | none => rfl
  | some v =>
    have := (d k v e).1
    omega
theorem Vn_ovl {N : Nat → Nat} (v : Vn N) {D : Nat → Option Nat} (d : Dok D) : Vn (ovl N D) := by
  refine ⟨fun i hi => ?_, ?_, ?_⟩
  · cases e : D i with
    | none => rw [ovl_none e]; exact v.1 i hi
    | some u =>
      have := d i u e
      rw [ovl_some e]
      unfold bd
      rw [if_pos this.1]
      exact this.2
  · rw [ovl_none (d.n (by decide)), ovl_none (d.n (by decide))]
    exact v.2.1
  · rw [ovl_none (d.n (by decide))]
    exact v.2.2
theorem tell9 {N : Nat → Nat} {D : Nat → Option Nat} (d : Dok D) {c : Nat} (hc : 1 ≤ c) (hc2 : c ≤ 24) {h : Hp} (b : Po h 109 N) (dr : Dr h D) : ∃ q, lp (F := Nat → Int32 → Int32 → Hp → Option (Int32 × Hp)) (fun _ _ _ _ => none) f_X9_read_22 1000 108 (nI c) 0 h = some q ∧ (q.1 = nI c ∧ Po q.2 109 (ovl N D) ∧ ((∃ k, k < 24 ∧ D k ≠ none) → q.2.1 108 3 = 0) ∧ Fx [109] [3] h q.2) := by
  refine lp_inv (F := Nat → Int32 → Int32 → Hp → Option (Int32 × Hp)) (bot := fun _ _ _ _ => none) (G := f_X9_read_22) (fun K i (h : Hp) => K 108 (nI c) (nI i) h) 24 (fun i h' => Po h' 109 (fun j => if j < i then ovl N D j else N j) ∧ ((∃ k, k < i ∧ D k ≠ none) → h'.1 108 3 = 0) ∧ Fx [109] [3] h h') _ ?_ ?_ 1000 0 h (by omega) (by omega) ⟨b.ext (fun k _ => by rw [if_neg (Nat.not_lt_zero k)]), fun ⟨k, hk, _⟩ => absurd hk (Nat.not_lt_zero k), Fx.refl⟩
  · rintro K i h' hi ⟨c1, c2, c3⟩
    have e4 : h'.1 (108 + 4) i = oI (D i) := by rw [c3.1 (108 + 4) (by decide) (by decide)]; exact dr i hi
    show ∃ s', _ ∧ f_X9_read_22 K 108 (nI c) (nI i) h' = _
    unfold f_X9_read_22 f_X9_read_54
    rw [if_neg (nI_nle (by omega) (by omega)), if_neg (show ¬ (24 : Int32) ≤ nI i from nI_ge (b := 24) hi (by decide)), if_pos (ix_nI hi (by decide)), nI_clamp (by omega), e4, if_pos (ix_nI hi (by decide))]
    simp only [lt, nI_1]
    cases e : D i with
    | none =>
      rw [if_pos (show oI none = -1 from rfl)]
      refine ⟨h', ⟨c1.ext (fun k hk => ?_), fun ⟨k, hk, hn⟩ => c2 ⟨k, ?_, hn⟩, c3⟩, rfl⟩
      · by_cases ek : k = i
        · rw [ek, if_neg (Nat.lt_irrefl i), if_pos (by omega), ovl_none e]
        · by_cases q : k < i
          · rw [if_pos q, if_pos (by omega)]
          · rw [if_neg q, if_neg (by omega)]
      · by_cases ek : k = i
        · rw [ek] at hn
          exact absurd e hn
        · omega
    | some u =>
      have hu := (d i u e).2
      have ou : oI (some u) = nI u := rfl
      rw [ou, if_neg (show ¬ nI u = -1 from fun z => nI_pos (n := u) (by omega) (by rw [z]; decide)), tells9 h' (show i < 44 by omega)]
      simp only [Option.bind_some]
      refine ⟨_, ⟨?_, fun _ => by rw [sI1, if_pos rfl, if_pos rfl], Fx_f (Fx_sI c3 rfl (by decide)) rfl (by decide)⟩, rfl⟩
      have q := (Po_set (k := i) (v := u) c1).keep (h' := sI (sI h' 109 i (nI u)) 108 3 0) (sI_row _ _ _ (by decide))
      refine q.ext (fun k hk => ?_)
      unfold up
      by_cases ek : k = i
      · rw [if_pos ek, ek, if_pos (by omega), ovl_some e]
      · rw [if_neg ek]
        dsimp only
        by_cases q : k < i
        · rw [if_pos q, if_pos (by omega)]
        · rw [if_neg q, if_neg (by omega)]
  · rintro K h' ⟨c1, c2, c3⟩
    show ∃ b, f_X9_read_22 K 108 (nI c) (nI 24) h' = some b ∧ _
    unfold f_X9_read_22
    rw [if_neg (nI_nle (by omega) (by omega)), if_pos (show (24 : Int32) ≤ nI 24 by decide)]
    refine ⟨_, rfl, rfl, c1.ext (fun k hk => ?_), c2, c3⟩
    by_cases q : k < 24
    · rw [if_pos q]
    · rw [if_neg q, ovl_none (d.n (by omega))]
theorem rd9 {h o : Hp} {x : Int32} {wd : Nat} (hw : wd ≤ 3) {b : Int32 × Hp} (e : f_X9_readsAll 108 (nI wd) h = some b) (q : lp (F := Nat → Int32 → Int32 → Hp → Option (Int32 × Hp)) (fun _ _ _ _ => none) f_X9_read_22 1000 108 b.1 0 (sI b.2 108 6 0) = some (x, o)) : f_X9_read 108 (nI wd) h = some (x, o) := by
  generalize hl : lp (F := Nat → Int32 → Int32 → Hp → Option (Int32 × Hp)) (fun _ _ _ _ => none) f_X9_read_22 1000 = LL at q
  unfold f_X9_read
  rw [hl, isWardi _ hw, Option.bind_some, if_neg one_ne, e, Option.bind_some]
  exact q
section OPSR
variable {PK : (Nat → Nat) → Hp → Prop}
theorem op_read (hPK : PKok PK) (z1 : Int32) : Op (Rel PK) (fun h => f_X8_read 0 z1 h) (fun h => f_X9_read 108 z1 h) := by
  intro h ⟨N, hR⟩
  have v := hR.1
  rcases rng z1 3 (by decide) with ⟨wd, hw, rfl⟩ | o1
  · obtain ⟨a1, a2, a3, a4, ⟨t, t1, t2, t3, t4⟩, a6, a7, a8⟩ := id hR
    have cf := copy_11_1_fr h
    have p8 : Tp8 (cp_11_1 h) (h.1 97) t := ⟨by rw [(cf 96 (by omega) (by simp)).1]; exact t2, fun i hi => by rw [(cf 97 (by omega) (by simp)).1]⟩
    obtain ⟨⟨x, b⟩, e1, x1, q1⟩ := parse8 (N := N) (T := h.1 97) (t := t) t1 24 1000 wd 0 0 0 (fun _ => none) (cp_11_1 h) (by omega) (by omega) (by omega) (by omega) (Nat.zero_le t) (by omega) p8 (copy_11_1 a2)
    dsimp only at x1 q1
    have E1 : f_X7_parse 96 (nI wd) 11 1 h = some (x, b) := by
      unfold f_X7_parse
      rw [copy_11_1_eq, Option.bind_some]
      exact e1
    have f1 := mf_X7_parse E1
    dsimp only at f1
    obtain ⟨dk, dc⟩ := rdS_ok (T := h.1 97) (t := t) t1 24 wd 0 0 0 (fun _ => none) (by omega) (by omega) (by omega) (Nat.zero_le t) (by omega) (fun k v e => by cases e)
    rw [← x1] at dc
    -- the class, behind the parse
    have f2 : Fc 96 98 [11, 12, 13, 14, 15] h (sI b 96 1 0) := Fc_sI f1 rfl (Or.inl ⟨by decide, by decide⟩)
    have p9 : ∀ h1 : Hp, h1.1 108 = h.1 108 → h1.1 111 = h.1 111 → Tp9 h1 (h.1 97) t := fun h1 g1 g2 => ⟨by rw [g1]; exact t3, fun i hi => by rw [g2]; exact (t4 i hi).symm⟩
    have KK : ∀ (A : List Nat) (C : List (Nat × Nat)), (∀ k ∈ A, (k < 96 ∨ 98 ≤ k) ∧ k ∉ [11, 12, 13, 14, 15]) → (∀ q ∈ C, (q.1 < 96 ∨ 98 ≤ q.1) ∧ q.1 ∉ [11, 12, 13, 14, 15]) → KeepL A C h (sI b 96 1 0) := fun A C h1 h2 => KeepL.ofFc f2 h1 h2
    have d8 : ∀ y, f_X8_read 0 (nI wd) h = some y ↔ (if x ≤ 0 then (some (x, sI b 96 1 0)) else ((f_X3_copyFrom 1 11 (sI b 96 1 0)).bind (fun q4 => (f_X2_forget 56 q4.2).bind (fun q5 => some (x, q5.2))))) = some y := fun y => by
      unfold f_X8_read
      rw [w8i_3 _ hw, Option.bind_some, if_neg one_ne, show f_X7_parse (0 + 96) (nI wd) (0 + 11) (0 + 1) h = _ from E1, Option.bind_some]
    rcases dc with neg | ⟨c, c1, c2, c3, c4⟩
    · -- a fault
      obtain ⟨⟨x9, b9⟩, e9, x2, -⟩ := readsAll9 (T := h.1 97) t1 (show wd < 4 by omega) (p9 (sI b 96 1 0) (f2 108 (by omega) (by simp)).1 (f2 111 (by omega) (by simp)).1)
      have f9 := mf_X9_readsAll e9
      dsimp only at x2 f9
      rw [← x1] at x2
      subst x2
      have E9 : f_X9_read 108 (nI wd) (sI b 96 1 0) = some (x9, sI b9 108 6 0) := rd9 hw e9 (by
        show f_X9_read_22 _ 108 x9 0 (sI b9 108 6 0) = _
        unfold f_X9_read_22
        rw [if_pos (Int32.le_of_lt neg)])
      have f10 : Fx [112] [6, 7] (sI b 96 1 0) (sI b9 108 6 0) := Fx_f (f9.mono (by decide) (by decide)) rfl (by decide)
      refine ⟨x9, sI b 96 1 0, sI b9 108 6 0, (d8 _).mpr (if_pos (Int32.le_of_lt neg)), E9, ⟨N, ?_⟩⟩
      have K2 : ∀ (A : List Nat) (C : List (Nat × Nat)), (∀ k ∈ A, (k < 96 ∨ 98 ≤ k) ∧ k ∉ [11, 12, 13, 14, 15]) → (∀ q ∈ C, (q.1 < 96 ∨ 98 ≤ q.1) ∧ q.1 ∉ [11, 12, 13, 14, 15]) → (∀ k ∈ A, k ∉ [112] ∧ k ≠ 108) → (∀ q ∈ C, (q.1 = 108 ∧ q.2 ∉ [6, 7]) ∨ (q.1 ≠ 108 ∧ q.1 ∉ [112])) → KeepL A C h (sI b9 108 6 0) := fun A C h1 h2 h3 h4 => (KK A C h1 h2).trans (KeepL.ofFx f10 h3 h4)
      have k0 := K2 [1, 2, 3, 4, 5, 6, 7, 8, 9, 10, 109, 110] [(0, 10), (108, 2)] (by decide) (by decide) (by decide) (by decide)
      refine ⟨a1, a2.keep ?_, a3.keep (k0.1 109 (by decide)), a4.keep (k0.2 (0, 10) (by decide)) (k0.2 (108, 2) (by decide)) ?_ (k0.1 110 (by decide)), ⟨0, Nat.zero_le _, ?_, ?_, fun i hi => absurd hi (Nat.not_lt_zero i)⟩, a6.l (K2 _ _ (by decide) (by decide) (by decide) (by decide)), a7.l (K2 _ _ (by decide) (by decide) (by decide) (by decide)), a8.l hPK (K2 _ _ (by decide) (by decide) (by decide) (by decide))⟩
      · intro j hj
        rcases (show j = 0 ∨ j = 1 ∨ j = 2 ∨ j = 3 ∨ j = 4 by omega) with rfl | rfl | rfl | rfl | rfl <;> exact k0.1 _ (by decide)
      · intro j hj
        rcases (show j = 0 ∨ j = 1 ∨ j = 2 ∨ j = 3 ∨ j = 4 by omega) with rfl | rfl | rfl | rfl | rfl <;> exact k0.1 _ (by decide)
      · rw [f10.1 96 (by decide) (by decide), sI1, if_pos rfl, if_pos rfl]
        rfl
      · rw [sI1, if_pos rfl, if_pos rfl]
        rfl
    · -- votes
      have pos : ¬ x ≤ 0 := by rw [c3]; exact nI_nle (by omega) (by omega)
      have pc3 : Pc (sI b 96 1 0) 11 (ovl N (rdS (h.1 97) t 24 wd 0 0 0 (fun _ => none)).2) := q1.keep (fun j hj => sI_row _ _ _ (by omega))
      have fc := copy_1_11_fr (sI b 96 1 0)
      have pc4 := copy_1_11 pc3
      have f3 : Fc 56 57 [] (cp_1_11 (sI b 96 1 0)) (sI (cp_1_11 (sI b 96 1 0)) 56 4 1) := Fc_sI Fc.refl rfl (Or.inl ⟨by decide, by decide⟩)
      have E8 : f_X8_read 0 (nI wd) h = some (x, sI (cp_1_11 (sI b 96 1 0)) 56 4 1) := (d8 _).mpr (by
        rw [if_neg pos, copy_1_11_eq, Option.bind_some]
        rfl)
      have g108 : (sI (cp_1_11 (sI b 96 1 0)) 56 4 1).1 108 = h.1 108 := by rw [sI_row _ _ _ (by decide), (fc 108 (by omega) (by simp)).1, (f2 108 (by omega) (by simp)).1]
      have g111 : (sI (cp_1_11 (sI b 96 1 0)) 56 4 1).1 111 = h.1 111 := by rw [sI_row _ _ _ (by decide), (fc 111 (by omega) (by simp)).1, (f2 111 (by omega) (by simp)).1]
      have g109 : (sI (cp_1_11 (sI b 96 1 0)) 56 4 1).1 109 = h.1 109 := by rw [sI_row _ _ _ (by decide), (fc 109 (by omega) (by simp)).1, (f2 109 (by omega) (by simp)).1]
      obtain ⟨⟨x9, b9⟩, e9, x2, dr⟩ := readsAll9 (T := h.1 97) t1 (show wd < 4 by omega) (p9 _ g108 g111)
      have f9 := mf_X9_readsAll e9
      dsimp only at x2 f9 dr
      rw [← x1] at x2
      subst x2
      have nneg : ¬ x9 < 0 := by rw [c3]; exact nI_pos (by omega)
      have dr2 : Dr (sI b9 108 6 0) (rdS (h.1 97) t 24 wd 0 0 0 (fun _ => none)).2 := fun k hk => by rw [sI_row _ _ _ (by decide)]; exact dr nneg k hk
      have b92 : Po (sI b9 108 6 0) 109 N := a3.keep (by rw [sI_row _ _ _ (by decide), f9.1 109 (by decide) (by decide), g109])
      obtain ⟨⟨x3, o⟩, e3, x4, po, st, f4⟩ := tell9 dk c1 c2 b92 dr2
      dsimp only at x4 po st f4
      subst x4
      have E9 : f_X9_read 108 (nI wd) (sI (cp_1_11 (sI b 96 1 0)) 56 4 1) = some (nI c, o) := rd9 hw e9 (by
        dsimp only
        rw [c3]
        exact e3)
      have f10 : Fx [109, 112] [3, 6, 7] (sI (cp_1_11 (sI b 96 1 0)) 56 4 1) o := (Fx_f (f9.mono (by decide) (by decide)) rfl (by decide) : Fx [109, 112] [3, 6, 7] _ (sI b9 108 6 0)).trans (f4.mono (by decide) (by decide))
      refine ⟨nI c, sI (cp_1_11 (sI b 96 1 0)) 56 4 1, o, by rw [← c3]; exact E8, E9, ⟨ovl N (rdS (h.1 97) t 24 wd 0 0 0 (fun _ => none)).2, ?_⟩⟩
      have K2 : ∀ (A : List Nat) (C : List (Nat × Nat)), (∀ k ∈ A, (k < 96 ∨ 98 ≤ k) ∧ k ∉ [11, 12, 13, 14, 15]) → (∀ q ∈ C, (q.1 < 96 ∨ 98 ≤ q.1) ∧ q.1 ∉ [11, 12, 13, 14, 15]) → (∀ k ∈ A, (k < 1 ∨ 6 ≤ k) ∧ k ∉ ([] : List Nat)) → (∀ q ∈ C, (q.1 < 1 ∨ 6 ≤ q.1) ∧ q.1 ∉ ([] : List Nat)) → (∀ k ∈ A, (k < 56 ∨ 57 ≤ k) ∧ k ∉ ([] : List Nat)) → (∀ q ∈ C, (q.1 < 56 ∨ 57 ≤ q.1) ∧ q.1 ∉ ([] : List Nat)) → (∀ k ∈ A, k ∉ [109, 112] ∧ k ≠ 108) → (∀ q ∈ C, (q.1 = 108 ∧ q.2 ∉ [3, 6, 7]) ∨ (q.1 ≠ 108 ∧ q.1 ∉ [109, 112])) → KeepL A C h o := fun A C h1 h2 h3 h4 h5 h6 h7 h8 => (((KK A C h1 h2).trans (KeepL.ofFc fc h3 h4)).trans (KeepL.ofFc f3 h5 h6)).trans (KeepL.ofFx f10 h7 h8)
      have k0 := K2 [6, 7, 8, 9, 10, 110] [(0, 10), (108, 2)] (by decide) (by decide) (by decide) (by decide) (by decide) (by decide) (by decide) (by decide)
      refine ⟨Vn_ovl v dk, pc4.keep (fun j hj => ?_), po, a4.keep (k0.2 (0, 10) (by decide)) (k0.2 (108, 2) (by decide)) ?_ (k0.1 110 (by decide)), ⟨0, Nat.zero_le _, ?_, ?_, fun i hi => absurd hi (Nat.not_lt_zero i)⟩, a6.l (K2 _ _ (by decide) (by decide) (by decide) (by decide) (by decide) (by decide) (by decide) (by decide)), a7.l (K2 _ _ (by decide) (by decide) (by decide) (by decide) (by decide) (by decide) (by decide) (by decide)), Or.inl ⟨?_, st c4⟩⟩
      · rw [f10.1 _ (by simp; omega) (by omega), sI_row _ _ _ (by omega)]
      · intro j hj
        rcases (show j = 0 ∨ j = 1 ∨ j = 2 ∨ j = 3 ∨ j = 4 by omega) with rfl | rfl | rfl | rfl | rfl <;> exact k0.1 _ (by decide)
      · rw [f10.1 96 (by decide) (by decide), sI_row _ _ _ (by decide), (fc 96 (by omega) (by simp)).1, sI1, if_pos rfl, if_pos rfl]
        rfl
      · rw [f4.2.2 6 (by decide), sI1, if_pos rfl, if_pos rfl]
        rfl
      · rw [f10.1 56 (by decide) (by decide), sI1, if_pos rfl, if_pos rfl]
  · refine same_op (r := -1) ⟨N, hR⟩ ?_ ?_
    · unfold f_X8_read
      simp only [w8o_3 _ o1, Option.bind_some, if_true]
    · unfold f_X9_read
      simp only [isWardo _ o1, Option.bind_some, if_true]
end OPSR
