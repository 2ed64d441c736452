def gsD : GS := gs0 (fun _ => 0)
/-- the seats of lists in a house of H -/
def lgv (N : Nat → Nat) (w H : Nat) : Option GS := gvN N w (PL N 6).1 (PL N 6).2.1 (PL N 6).2.2 H
def lst (N : Nat → Nat) (w H : Nat) : GS := (lgv N w H).getD gsD
/-- the seats of the parties of a list -/
def mgv (N : Nat → Nat) (w H l : Nat) : Option GS := gvN N w (PM N l 6).1 (PM N l 6).2.1 (PM N l 6).2.2 ((lst N w H).s l)
def okH (N : Nat → Nat) (w H : Nat) : Prop := (lgv N w H).isSome = true ∧ ∀ l, l < 6 → (mgv N w H l).isSome = true
def prt (N : Nat → Nat) (w H k : Nat) : Nat := ((mgv N w H (N (34 + k))).getD gsD).s k
def pSi (N : Nat → Nat) (w H l k : Nat) : Nat := if (isInN N k && decide (N (34 + k) < l)) = true then prt N w H k else 0
/-- the seats of parties -/
def pS (N : Nat → Nat) (w H k : Nat) : Nat := if isInN N k = true then prt N w H k else 0
theorem pSi_6 {N : Nat → Nat} (v : Vn N) (w H : Nat) {k : Nat} (hk : k < 6) : pSi N w H 6 k = pS N w H k := by
  have := lst_le v hk
  unfold pSi pS
  have e : decide (N (34 + k) < 6) = true := by simp [this]
  rw [e, Bool.and_true]
theorem pSi_0 (N : Nat → Nat) (w H k : Nat) : pSi N w H 0 k = 0 := by
  unfold pSi
  rw [if_neg (by simp)]
theorem PL_z (N : Nat → Nat) : ∀ k, k < 6 → (PL N 6).1 k = false → (PL N 6).2.1 k = 0 ∧ (PL N 6).2.2 k = 0 := fun _ _ h => ents_0 6 h
theorem PL_p (N : Nat → Nat) : ∀ k, k < 6 → (PL N 6).1 k = true → 0 < (PL N 6).2.1 k := fun _ _ h => ents_pos (fun _ _ h => in_pos h) 6 (Nat.le_refl 6) h
theorem PL_W {N : Nat → Nat} (v : Vn N) : ∀ k, k < 6 → (PL N 6).2.1 k ≤ 2400000 := fun k _ => by
  have := ents_W (S := isInN N) (T := fun i => N (34 + i)) (V := tot N) (L := fun i => N (28 + i)) (B := 400000) (k := k) (fun i hi => tot_le v hi) 6 (Nat.le_refl 6)
  exact this
theorem PL_F {N : Nat → Nat} (v : Vn N) : sF (PL N 6).2.2 6 ≤ 100 := by
  have := ents_F (S := isInN N) (T := fun i => N (34 + i)) (V := tot N) (L := fun i => N (28 + i)) (B := 9) (fun i hi => lst_le v hi) (fun i hi => lea_le v hi) 6 (Nat.le_refl 6)
  exact Nat.le_trans this (by decide)
theorem mem_in {N : Nat → Nat} {l i : Nat} (h : memS N l i = true) : isInN N i = true ∧ N (34 + i) = l := by
  unfold memS at h
  simpa using h
theorem PM_z (N : Nat → Nat) (l : Nat) : ∀ k, k < 6 → (PM N l 6).1 k = false → (PM N l 6).2.1 k = 0 ∧ (PM N l 6).2.2 k = 0 := fun _ _ h => ents_0 6 h
theorem PM_p (N : Nat → Nat) (l : Nat) : ∀ k, k < 6 → (PM N l 6).1 k = true → 0 < (PM N l 6).2.1 k := fun _ _ h => ents_pos (fun _ _ h => in_pos (mem_in h).1) 6 (Nat.le_refl 6) h
theorem PM_W {N : Nat → Nat} (v : Vn N) (l : Nat) : ∀ k, k < 6 → (PM N l 6).2.1 k ≤ 2400000 := fun k _ => by
  have := ents_W (S := memS N l) (T := fun i => i) (V := tot N) (L := fun i => N (28 + i)) (B := 400000) (k := k) (fun i hi => tot_le v hi) 6 (Nat.le_refl 6)
  exact this
theorem PM_F {N : Nat → Nat} (v : Vn N) (l : Nat) : sF (PM N l 6).2.2 6 ≤ 100 := by
  have := ents_F (S := memS N l) (T := fun i => i) (V := tot N) (L := fun i => N (28 + i)) (B := 9) (fun i hi => hi) (fun i hi => lea_le v hi) 6 (Nat.le_refl 6)
  exact Nat.le_trans this (by decide)
theorem PM_iff {N : Nat → Nat} {l k : Nat} (hk : k < 6) : (PM N l 6).1 k = true ↔ memS N l k = true := by
  unfold PM
  rw [ents_P]
  constructor
  · rintro ⟨i, h1, h2, h3⟩
    rw [← h3]
    exact h2
  · intro h
    exact ⟨k, hk, h, rfl⟩
theorem lst_ok {N : Nat → Nat} {w H : Nat} {st : GS} (h : lgv N w H = some st) : lst N w H = st ∧ sF (lst N w H).s 6 = H ∧ (lst N w H).c ≤ H ∧ ∀ k, k < 6 → (PL N 6).1 k = false → (lst N w H).s k = 0 := by
  have e : lst N w H = st := by
    unfold lst
    rw [h]
    rfl
  rw [e]
  exact ⟨rfl, gvN_ok (PL_z N) h⟩
theorem pSi_step {N : Nat → Nat} {w H l : Nat} {s2 : GS} (h : mgv N w H l = some s2) {k : Nat} (hk : k < 6) : pSi N w H (l + 1) k = pSi N w H l k + s2.s k ∧ (memS N l k = true → pSi N w H (l + 1) k = s2.s k) ∧ (¬ memS N l k = true → pSi N w H (l + 1) k = pSi N w H l k) := by
  have z := (gvN_ok (PM_z N l) h).2.2 k hk
  have key : (memS N l k = true → pSi N w H (l + 1) k = s2.s k ∧ pSi N w H l k = 0) ∧ (¬ memS N l k = true → pSi N w H (l + 1) k = pSi N w H l k ∧ s2.s k = 0) := by
    constructor
    · intro hm
      obtain ⟨h1, h2⟩ := mem_in hm
      unfold pSi prt
      rw [h1, h2, if_pos (by simp), if_neg (by simp), h]
      exact ⟨rfl, rfl⟩
    · intro hm
      refine ⟨?_, z (by
        cases q : (PM N l 6).1 k with
        | false => rfl
        | true => exact absurd ((PM_iff hk).mp q) hm)⟩
      unfold pSi
      by_cases hi : isInN N k = true
      · have hne : ¬ N (34 + k) = l := fun e => hm (by unfold memS; simp [hi, e])
        have e : decide (N (34 + k) < l + 1) = decide (N (34 + k) < l) := by
          by_cases q : N (34 + k) < l
          · rw [decide_eq_true q, decide_eq_true (by omega)]
          · rw [decide_eq_false q, decide_eq_false (by omega)]
        rw [e]
      · have e : isInN N k = false := by simpa using hi
        rw [e]
        rfl
  by_cases hm : memS N l k = true
  · have := key.1 hm
    exact ⟨by omega, fun _ => this.1, fun q => absurd hm q⟩
  · have := key.2 hm
    exact ⟨by omega, fun q => absurd q hm, fun _ => this.1⟩
theorem ClR.keep {P : Nat → Bool} {W F : Nat → Nat} {h h' : Hp} {g : Nat} {st : GS} (a : ClR P W F h g st) (hk : ∀ j, j < 9 → h'.1 (g + j) = h.1 (g + j) ∧ h'.2 (g + j) = h.2 (g + j)) : ClR P W F h' g st := by
  unfold ClR
  have e0 := (hk 0 (by decide)).1
  rw [Nat.add_zero] at e0
  rw [e0, (hk 1 (by decide)).1, (hk 2 (by decide)).1, (hk 3 (by decide)).2, (hk 4 (by decide)).1]
  exact a
theorem ClR.fc {P : Nat → Bool} {W F : Nat → Nat} {h h' : Hp} {g lo hi : Nat} {X : List Nat} {st : GS} (a : ClR P W F h g st) (c : Fc lo hi X h h') (hk : ∀ j, j < 9 → (g + j < lo ∨ hi ≤ g + j) ∧ g + j ∉ X) : ClR P W F h' g st := a.keep (fun j hj => c _ (hk j hj).1 (hk j hj).2)
/-- the class's house -/
def ClH (N : Nat → Nat) (w H : Nat) (h : Hp) (G : Nat) : Prop := h.1 G 2 = bits6 (isInN N) ∧ ClR (PL N 6).1 (PL N 6).2.1 (PL N 6).2.2 h (G + 1) (lst N w H) ∧ ∀ k, k < 6 → h.1 (G + 10) k = nI (pS N w H k)
def HsL (G : Nat) : Prop := GvL (G + 1) ∧ GvL (G + 11) ∧ ln (G + 10) = 6
theorem fillH8 {N : Nat → Nat} (v : Vn N) {w : Nat} (hw : w ≤ 6) {G p : Nat} (hpg : p + 5 ≤ G) (hl : HsL G) {h : Hp} (a : Pc h p N) {H : Nat} (hH : H ≤ 60) : ∃ b, f_X1_fill G p (nI w) (nI H) h = some b ∧ ((okH N w H ∧ b.1 = 1 ∧ ClH N w H b.2 G) ∨ (¬ okH N w H ∧ b.1 = 0)) := by
  obtain ⟨l1, l2, l3⟩ := hl
  obtain ⟨h1, a1, a2, a3, a4⟩ := fill8 (a := G + 10) (v := 0) (by omega) h
  rw [l3] at a4
  have p1 : Pc h1 p N := a.keep (fun j hj => a2 _ (by omega))
  have p2 : Pc (sI h1 G 2 (bits6 (isInN N))) p N := p1.keep (fun j hj => sI_row _ _ _ (by omega))
  obtain ⟨b4, e4, c1, c2, c3⟩ := enterLists8 v hpg l1 p2 (by rw [sI1, if_pos rfl, if_pos rfl])
  have p4 : Pc b4.2 p N := c3.pc p2 (fun j hj => ⟨by omega, by simp⟩)
  obtain ⟨b5, e5, g5⟩ := give8 v hw (PL_z N) (fun _ => PL_p N) (PL_W v) (PL_F v) (g := G + 1) (by omega) p4 c1 c2 hH
  have f5 : Fc (G + 1) (G + 10) [] b4.2 b5.2 := mf_X0_give e5
  have p5 : Pc b5.2 p N := f5.pc p4 (fun j hj => ⟨by omega, by simp⟩)
  have q5 : b5.2.1 G 2 = bits6 (isInN N) := by rw [(f5 G (by omega) (by simp)).1, (c3 G (by omega) (by simp)).1, sI1, if_pos rfl, if_pos rfl]
  have r5 : ∀ k, k < 6 → b5.2.1 (G + 10) k = 0 := fun k hk => by rw [(f5 (G + 10) (by omega) (by simp)).1, (c3 (G + 10) (by omega) (by simp)).1, sI_row _ _ _ (by omega), a4 k hk]
  unfold f_X1_fill
  rw [a1]
  simp only [Option.bind_some]
  rw [inBits8 v p1]
  simp only [Option.bind_some, lt]
  rw [e4]
  simp only [Option.bind_some]
  rw [e5]
  simp only [Option.bind_some]
  rcases g5 with ⟨n1, n2⟩ | ⟨st, n1, n2, n3⟩
  · rw [if_pos n2, if_pos isB0]
    refine ⟨(0, b5.2), rfl, Or.inr ⟨fun z => ?_, rfl⟩⟩
    have := z.1
    unfold lgv at this
    rw [n1] at this
    cases this
  · rw [if_neg (by rw [n2]; decide)]
    obtain ⟨o1, o2, o3, o4⟩ := lst_ok (N := N) (w := w) (H := H) n1
    rw [← o1] at n3
    refine lp_invE (F := Nat → Nat → Int32 → Int32 → Hp → Option (Int32 × Hp)) (bot := fun _ _ _ _ _ => none) (G := f_X1_fill_39) (fun K i (h : Hp) => K G p (nI w) (nI i) h) 6 (fun i h => Pc h p N ∧ h.1 G 2 = bits6 (isInN N) ∧ ClR (PL N 6).1 (PL N 6).2.1 (PL N 6).2.2 h (G + 1) (lst N w H) ∧ (∀ k, k < 6 → h.1 (G + 10) k = nI (pSi N w H i k)) ∧ ∀ l, l < i → (mgv N w H l).isSome = true) _ ?_ ?_ 1000 0 b5.2 (by omega) (by omega) ⟨p5, q5, n3, fun k hk => by rw [r5 k hk, pSi_0]; rfl, fun l hl => absurd hl (Nat.not_lt_zero l)⟩
    · rintro K i h hi ⟨d1, d2, d3, d4, d5⟩
      obtain ⟨b6, e6, m1, m2, m3⟩ := enterMembers8 v hpg hi l2 d1 d2
      have p6 : Pc b6.2 p N := m3.pc d1 (fun j hj => ⟨by omega, by simp⟩)
      have r6 : ClR (PL N 6).1 (PL N 6).2.1 (PL N 6).2.2 b6.2 (G + 1) (lst N w H) := d3.fc m3 (fun j hj => ⟨by omega, by simp⟩)
      have hs : (lst N w H).s i ≤ 60 := by
        have := sF_le (F := (lst N w H).s) hi
        omega
      obtain ⟨b7, e7, g7⟩ := give8 v hw (PM_z N i) (fun _ => PM_p N i) (PM_W v i) (PM_F v i) (g := G + 11) (by omega) p6 m1 m2 hs
      have f7 : Fc (G + 11) (G + 20) [] b6.2 b7.2 := mf_X0_give e7
      show (∃ s', _ ∧ f_X1_fill_39 K G p (nI w) (nI i) h = _) ∨ ∃ b, f_X1_fill_39 K G p (nI w) (nI i) h = some b ∧ _
      unfold f_X1_fill_39
      rw [if_neg (ge6 hi), e6]
      simp only [Option.bind_some]
      rw [if_pos (ix6 hi), cl6' hi, r6.2.2.2.1 i hi, e7]
      simp only [Option.bind_some]
      rcases g7 with ⟨n1, n2⟩ | ⟨s2, n1, n2, n3⟩
      · right
        rw [if_pos n2, if_pos isB0]
        refine ⟨(0, b7.2), rfl, Or.inr ⟨fun z => ?_, rfl⟩⟩
        have := z.2 i hi
        unfold mgv at this
        rw [n1] at this
        cases this
      · left
        rw [if_neg (by rw [n2]; decide)]
        have f67 := m3.trans f7
        obtain ⟨h', ⟨t1, t2⟩, t3⟩ := lp_invK (F := Nat → Nat → Int32 → Int32 → Int32 → Hp → Option (Int32 × Hp)) (bot := fun _ _ _ _ _ _ => none) (G := f_X1_fill_80 K) (fun K j (h : Hp) => K G p (nI w) (nI i) (nI j) h) 6 (fun j h' => Fc (G + 10) (G + 11) [] b7.2 h' ∧ ∀ k, k < 6 → h'.1 (G + 10) k = nI (if k < j then pSi N w H (i + 1) k else pSi N w H i k)) (fun h' => K G p (nI w) (nI (i + 1)) h') (fun K2 j h' hj ⟨u1, u2⟩ => ⟨sI h' (G + 10) j (nI (pSi N w H (i + 1) j)), ⟨Fc_sI u1 rfl (Or.inl ⟨by omega, by omega⟩), fun k hk => by
            rw [sI1, if_pos rfl]
            by_cases ek : k = j
            · rw [if_pos ek, if_pos (by omega), ek]
            · rw [if_neg ek, u2 k hk]
              by_cases kj : k < j
              · rw [if_pos kj, if_pos (by omega)]
              · rw [if_neg kj, if_neg (by omega)]⟩, by
            show f_X1_fill_80 K K2 G p (nI w) (nI i) (nI j) h' = _
            unfold f_X1_fill_80
            rw [if_neg (ge6 hj), if_pos (ix6 hj), if_pos (ix6 hj), if_pos (ix6 hj), cl6' hj, u2 j hj, (u1 (G + 11 + 1) (by omega) (by simp)).1, n3.2.2.2.1 j hj, if_neg (Nat.lt_irrefl j), nI_add, ← (pSi_step n1 hj).1]
            simp only [lt, nI_1]⟩) (fun K2 h' _ => by
            show f_X1_fill_80 K K2 G p (nI w) (nI i) (nI 6) h' = _
            unfold f_X1_fill_80
            rw [if_pos (show (6 : Int32) ≤ nI 6 by decide)]
            simp only [lt, nI_1]) 1000 0 b7.2 (by omega) (by omega) ⟨Fc.refl, fun k hk => by rw [(f67 (G + 10) (by omega) (by simp)).1, d4 k hk, if_neg (Nat.not_lt_zero k)]⟩
        refine ⟨h', ⟨?_, ?_, ?_, fun k hk => ?_, fun l hl => ?_⟩, t3⟩
        · exact t1.pc (f7.pc p6 (fun j hj => ⟨by omega, by simp⟩)) (fun j hj => ⟨by omega, by simp⟩)
        · rw [(t1 G (by omega) (by simp)).1, (f67 G (by omega) (by simp)).1, d2]
        · exact (r6.fc f7 (fun j hj => ⟨by omega, by simp⟩)).fc t1 (fun j hj => ⟨by omega, by simp⟩)
        · rw [t2 k hk, if_pos hk]
        · by_cases el : l = i
          · rw [el]
            unfold mgv
            rw [n1]
            rfl
          · exact d5 l (by omega)
    · rintro K h ⟨d1, d2, d3, d4, d5⟩
      show ∃ b, f_X1_fill_39 K G p (nI w) (nI 6) h = some b ∧ _
      unfold f_X1_fill_39
      rw [if_pos (show (6 : Int32) ≤ nI 6 by decide), if_pos isB1]
      refine ⟨(1, h), rfl, Or.inl ⟨⟨?_, d5⟩, rfl, d2, d3, fun k hk => by rw [d4 k hk, pSi_6 v w H hk]⟩⟩
      unfold lgv
      rw [n1]
      rfl
