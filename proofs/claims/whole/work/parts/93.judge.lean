def jN (J : Nat → Int32) (c : Nat) : Nat := (J c).toNatClampNeg
/-- told seats that are taken -/
def TK (J : Nat → Int32) (N D : Nat → Nat) : Prop := (∀ c, c < 24 → ¬ J c < 0) ∧ (∀ w, w < 4 → sF (fun p => jN J (6 * w + p)) 6 = N (24 + w)) ∧ ∀ p, p < 6 → sF (fun w => jN J (6 * w + p)) 4 = D p
theorem jN_eq {J : Nat → Int32} {c : Nat} (h : ¬ J c < 0) : J c = nI (jN J c) ∧ jN J c < 2 ^ 31 := by
  obtain ⟨j, hj, e⟩ := nI_of h
  unfold jN
  rw [e, nI_clamp hj]
  exact ⟨rfl, hj⟩
theorem sF_b31 {f : Nat → Nat} (h : ∀ k, k < 6 → f k < 2 ^ 31) : ∀ n, n ≤ 6 → sF f n < 6 * 2 ^ 31 + 1 := by
  intro n hn
  have := sF_bd (f := f) (B := 2 ^ 31) (fun k hk => Nat.le_of_lt (h k hk)) n hn
  omega
theorem takes8 {N D : Nat → Nat} (v : Vn N) (hD : ∀ p, p < 6 → D p ≤ 60) {h : Hp} (a : Pc h 1 N) {J : Nat → Int32} (eJ : ∀ c, c < 24 → h.1 107 c = J c) (e77 : ∀ p, p < 6 → h.1 77 p = nI (D p)) : ∃ x, f_X2_takes 56 1 107 h = some x ∧ (x.2 = h ∧ ((TK J N D ∧ x.1 = 1) ∨ (¬ TK J N D ∧ x.1 = 0))) := by
  unfold f_X2_takes
  refine lp_invE (F := Nat → Nat → Nat → Int32 → Hp → Option (Int32 × Hp)) (bot := fun _ _ _ _ _ => none) (G := f_X2_takes_2) (fun K i (_ : Unit) => K 56 1 107 (nI i) h) 24 (fun i _ => ∀ c, c < i → ¬ J c < 0) _ ?_ ?_ 1000 0 () (by omega) (by omega) (fun c hc => absurd hc (Nat.not_lt_zero c))
  · intro K i _ hi hI
    show (∃ s', _ ∧ f_X2_takes_2 K 56 1 107 (nI i) h = _) ∨ ∃ b, f_X2_takes_2 K 56 1 107 (nI i) h = some b ∧ _
    unfold f_X2_takes_2
    rw [if_neg (show ¬ (24 : Int32) ≤ nI i from nI_ge (b := 24) hi (by decide)), show ln 107 = 24 from rfl, if_pos (ix24 hi), nI_clamp (by omega), eJ i hi]
    by_cases z : J i < 0
    · right
      rw [if_neg (Int32.not_le.mpr z), if_pos isB0]
      exact ⟨_, rfl, rfl, Or.inr ⟨fun t => t.1 i hi z, rfl⟩⟩
    · left
      rw [if_pos (Int32.not_lt.mp z)]
      refine ⟨(), fun c hc => ?_, by dsimp only [lt]; rw [nI_1]⟩
      by_cases ec : c = i
      · rw [ec]
        exact z
      · exact hI c (by omega)
  · intro K _ hI
    have jj : ∀ c, c < 24 → J c = nI (jN J c) ∧ jN J c < 2 ^ 31 := fun c hc => jN_eq (hI c hc)
    show ∃ b, f_X2_takes_2 K 56 1 107 (nI 24) h = some b ∧ _
    unfold f_X2_takes_2
    rw [if_pos (show (24 : Int32) ≤ nI 24 by decide)]
    have L24 := lp_invE (F := Nat → Nat → Nat → Int32 → Hp → Option (Int32 × Hp)) (bot := fun _ _ _ _ _ => none) (G := f_X2_takes_24) (fun K i (_ : Unit) => K 56 1 107 (nI i) h) 4 (fun i _ => ∀ w, w < i → sF (fun p => jN J (6 * w + p)) 6 = N (24 + w)) (fun x => x.2 = h ∧ ((TK J N D ∧ x.1 = 1) ∨ (¬ TK J N D ∧ x.1 = 0))) ?_ ?_ 1000 0 () (by omega) (by omega) (fun w hw => absurd hw (Nat.not_lt_zero w))
    · exact L24
    · intro K2 w _ hw hI2
      have hws := ws_le v hw
      show (∃ s', _ ∧ f_X2_takes_24 K2 56 1 107 (nI w) h = _) ∨ ∃ b, f_X2_takes_24 K2 56 1 107 (nI w) h = some b ∧ _
      unfold f_X2_takes_24
      rw [if_neg (show ¬ (4 : Int32) ≤ nI w from nI_ge (b := 4) hw (by decide))]
      have bb := sF_b31 (f := fun p => jN J (6 * w + p)) (fun p hp => (jj _ (by omega)).2)
      have s35 := lp_seq (F := Nat → Nat → Nat → Int32 → Int64 → Int32 → Hp → Option (Int32 × Hp)) (bot := fun _ _ _ _ _ _ _ => none) (G := f_X2_takes_35 K2) (fun K i (x : Nat) => K 56 1 107 (nI w) (lN x) (nI i) h) 6 (fun i => sF (fun p => jN J (6 * w + p)) i) (if sF (fun p => jN J (6 * w + p)) 6 = N (24 + w) then K2 56 1 107 (nI (w + 1)) h else some (0, h)) ?_ ?_ 1000 0 (by omega) (by omega)
      · have s35' : lp (F := Nat → Nat → Nat → Int32 → Int64 → Int32 → Hp → Option (Int32 × Hp)) (fun _ _ _ _ _ _ _ => none) (f_X2_takes_35 K2) 1000 56 1 107 (nI w) 0 0 h = _ := s35
        rw [s35']
        by_cases z : sF (fun p => jN J (6 * w + p)) 6 = N (24 + w)
        · left
          rw [if_pos z]
          refine ⟨(), fun t ht => ?_, rfl⟩
          by_cases et : t = w
          · rw [et]
            exact z
          · exact hI2 t (by omega)
        · right
          rw [if_neg z]
          exact ⟨_, rfl, rfl, Or.inr ⟨fun t => z (t.2.1 w hw), rfl⟩⟩
      · intro K3 p hp
        obtain ⟨j1, j2⟩ := jj (6 * w + p) (by omega)
        show f_X2_takes_35 K2 K3 56 1 107 (nI w) (lN (sF (fun p => jN J (6 * w + p)) p)) (nI p) h = K3 56 1 107 (nI w) (lN (sF (fun p => jN J (6 * w + p)) p + jN J (6 * w + p))) (nI (p + 1)) h
        unfold f_X2_takes_35
        rw [if_neg (ge6 hp), cellw, Option.bind_some]
        dsimp only [lt]
        rw [show ln 107 = 24 from rfl, if_pos (ix24 (by omega)), nI_clamp (by omega), eJ _ (by omega), j1, nI_l j2, lN_add, nI_1]
      · intro K3
        have b6 := bb 6 (Nat.le_refl 6)
        show f_X2_takes_35 K2 K3 56 1 107 (nI w) (lN (sF (fun p => jN J (6 * w + p)) 6)) (nI 6) h = _
        unfold f_X2_takes_35
        rw [if_pos (show (6 : Int32) ≤ nI 6 by decide), if_pos (ix4 hw), nI_clamp (by omega), show h.1 (1 + 2) w = _ from wseats8 a hw, nI_l (by omega)]
        dsimp only [lt]
        rw [nI_1]
        by_cases z : sF (fun p => jN J (6 * w + p)) 6 = N (24 + w)
        · rw [if_pos z, if_pos (by rw [lg_eq0, z])]
        · rw [if_neg z, if_neg (by rw [lg_eq0, pk_lEQ (by omega) (by omega)]; exact z), if_pos isB0]
    · intro K2 _ hI2
      show ∃ b, f_X2_takes_24 K2 56 1 107 (nI 4) h = some b ∧ _
      unfold f_X2_takes_24
      rw [if_pos (show (4 : Int32) ≤ nI 4 by decide)]
      have L85 := lp_invE (F := Nat → Nat → Int32 → Hp → Option (Int32 × Hp)) (bot := fun _ _ _ _ => none) (G := f_X2_takes_85) (fun K i (_ : Unit) => K 56 107 (nI i) h) 6 (fun i _ => ∀ p, p < i → sF (fun w => jN J (6 * w + p)) 4 = D p) (fun x => x.2 = h ∧ ((TK J N D ∧ x.1 = 1) ∨ (¬ TK J N D ∧ x.1 = 0))) ?_ ?_ 1000 0 () (by omega) (by omega) (fun w hw => absurd hw (Nat.not_lt_zero w))
      · exact L85
      · intro K3 p _ hp hI3
        have hDp := hD p hp
        show (∃ s', _ ∧ f_X2_takes_85 K3 56 107 (nI p) h = _) ∨ ∃ b, f_X2_takes_85 K3 56 107 (nI p) h = some b ∧ _
        unfold f_X2_takes_85
        rw [if_neg (ge6 hp)]
        have b4 : sF (fun w => jN J (6 * w + p)) 4 < 2 ^ 40 := by
          have q0 := (jj (6 * 0 + p) (by omega)).2
          have q1 := (jj (6 * 1 + p) (by omega)).2
          have q2 := (jj (6 * 2 + p) (by omega)).2
          have q3 := (jj (6 * 3 + p) (by omega)).2
          show 0 + jN J (6 * 0 + p) + jN J (6 * 1 + p) + jN J (6 * 2 + p) + jN J (6 * 3 + p) < 2 ^ 40
          omega
        have s97 := lp_seq (F := Nat → Nat → Int32 → Int64 → Int32 → Hp → Option (Int32 × Hp)) (bot := fun _ _ _ _ _ _ => none) (G := f_X2_takes_97 K3) (fun K i (x : Nat) => K 56 107 (nI p) (lN x) (nI i) h) 4 (fun i => sF (fun w => jN J (6 * w + p)) i) (if sF (fun w => jN J (6 * w + p)) 4 = D p then K3 56 107 (nI (p + 1)) h else some (0, h)) ?_ ?_ 1000 0 (by omega) (by omega)
        · have s97' : lp (F := Nat → Nat → Int32 → Int64 → Int32 → Hp → Option (Int32 × Hp)) (fun _ _ _ _ _ _ => none) (f_X2_takes_97 K3) 1000 56 107 (nI p) 0 0 h = _ := s97
          rw [s97']
          by_cases z : sF (fun w => jN J (6 * w + p)) 4 = D p
          · left
            rw [if_pos z]
            refine ⟨(), fun t ht => ?_, rfl⟩
            by_cases et : t = p
            · rw [et]
              exact z
            · exact hI3 t (by omega)
          · right
            rw [if_neg z]
            exact ⟨_, rfl, rfl, Or.inr ⟨fun t => z (t.2.2 p hp), rfl⟩⟩
        · intro K4 w hw
          obtain ⟨j1, j2⟩ := jj (6 * w + p) (by omega)
          show f_X2_takes_97 K3 K4 56 107 (nI p) (lN (sF (fun w => jN J (6 * w + p)) w)) (nI w) h = K4 56 107 (nI p) (lN (sF (fun w => jN J (6 * w + p)) w + jN J (6 * w + p))) (nI (w + 1)) h
          unfold f_X2_takes_97
          rw [if_neg (show ¬ (4 : Int32) ≤ nI w from nI_ge (b := 4) hw (by decide)), cellw, Option.bind_some]
          dsimp only [lt]
          rw [show ln 107 = 24 from rfl, if_pos (ix24 (by omega)), nI_clamp (by omega), eJ _ (by omega), j1, nI_l j2, lN_add, nI_1]
        · intro K4
          show f_X2_takes_97 K3 K4 56 107 (nI p) (lN (sF (fun w => jN J (6 * w + p)) 4)) (nI 4) h = _
          unfold f_X2_takes_97
          rw [if_pos (show (4 : Int32) ≤ nI 4 by decide), if_pos (ix6 hp), cl6' hp, show h.1 (56 + 11 + 10) p = _ from e77 p hp, nI_l (by omega)]
          dsimp only [lt]
          rw [nI_1]
          by_cases z : sF (fun w => jN J (6 * w + p)) 4 = D p
          · rw [if_pos z, if_pos (by rw [lg_eq0, z])]
          · rw [if_neg z, if_neg (by rw [lg_eq0, pk_lEQ (by omega) (by omega)]; exact z), if_pos isB0]
      · intro K3 _ hI3
        show ∃ b, f_X2_takes_85 K3 56 107 (nI 6) h = some b ∧ _
        unfold f_X2_takes_85
        rw [if_pos (show (6 : Int32) ≤ nI 6 by decide), if_pos isB1]
        exact ⟨_, rfl, rfl, Or.inl ⟨⟨hI, hI2, hI3⟩, rfl⟩⟩
theorem planned9 {N D : Nat → Nat} (v : Vn N) (hD : ∀ p, p < 6 → D p ≤ 60) (hD0 : ∀ p, p < 6 → isInN N p = false → D p = 0) {h : Hp} (b : Po h 109 N) {J : Nat → Int32} (eJ : ∀ c, c < 24 → h.1 136 c = J c) (e130 : ∀ p, p < 6 → h.1 130 p = nI (D p)) : ∃ x, f_X9_isPlanned 108 h = some x ∧ (x.2 = h ∧ ((TK J N D ∧ x.1 = 1) ∨ (¬ TK J N D ∧ x.1 = 0))) := by
  unfold f_X9_isPlanned
  refine lp_invE (F := Nat → Int32 → Hp → Option (Int32 × Hp)) (bot := fun _ _ _ => none) (G := f_X9_isPlanned_2) (fun K i (_ : Unit) => K 108 (nI i) h) 6 (fun i _ => ∀ p, p < i → (∀ w, w < 4 → ¬ J (6 * w + p) < 0) ∧ sF (fun w => jN J (6 * w + p)) 4 = D p) _ ?_ ?_ 1000 0 () (by omega) (by omega) (fun p hp => absurd hp (Nat.not_lt_zero p))
  · intro K p _ hp hI
    have hDp := hD p hp
    show (∃ s', _ ∧ f_X9_isPlanned_2 K 108 (nI p) h = _) ∨ ∃ b, f_X9_isPlanned_2 K 108 (nI p) h = some b ∧ _
    unfold f_X9_isPlanned_2
    rw [if_neg (ge6 hp)]
    -- a column
    have col : (∃ o, lp (F := Nat → Int32 → Int64 → Int32 → Hp → Option (Int32 × Hp)) (fun _ _ _ _ _ => none) (f_X9_isPlanned_13 K) 1000 108 (nI p) 0 0 h = some o ∧ o = (0, h) ∧ ¬ TK J N D) ∨ ((∀ w, w < 4 → ¬ J (6 * w + p) < 0) ∧ sF (fun w => jN J (6 * w + p)) 4 = D p ∧ lp (F := Nat → Int32 → Int64 → Int32 → Hp → Option (Int32 × Hp)) (fun _ _ _ _ _ => none) (f_X9_isPlanned_13 K) 1000 108 (nI p) 0 0 h = K 108 (nI (p + 1)) h) := by
      have gen : ∀ (m w : Nat), w ≤ 4 → 4 < w + m → (∀ t, t < w → ¬ J (6 * t + p) < 0) → (∃ o, lp (F := Nat → Int32 → Int64 → Int32 → Hp → Option (Int32 × Hp)) (fun _ _ _ _ _ => none) (f_X9_isPlanned_13 K) m 108 (nI p) (lN (sF (fun w => jN J (6 * w + p)) w)) (nI w) h = some o ∧ o = (0, h) ∧ ¬ TK J N D) ∨ ((∀ w, w < 4 → ¬ J (6 * w + p) < 0) ∧ sF (fun w => jN J (6 * w + p)) 4 = D p ∧ lp (F := Nat → Int32 → Int64 → Int32 → Hp → Option (Int32 × Hp)) (fun _ _ _ _ _ => none) (f_X9_isPlanned_13 K) m 108 (nI p) (lN (sF (fun w => jN J (6 * w + p)) w)) (nI w) h = K 108 (nI (p + 1)) h) := by
        intro m
        induction m with
        | zero => intro w h1 h2; omega
        | succ m ih =>
          intro w h1 h2 h3
          show (∃ o, f_X9_isPlanned_13 K (lp (F := Nat → Int32 → Int64 → Int32 → Hp → Option (Int32 × Hp)) (fun _ _ _ _ _ => none) (f_X9_isPlanned_13 K) m) 108 (nI p) (lN (sF (fun w => jN J (6 * w + p)) w)) (nI w) h = some o ∧ _) ∨ (_ ∧ _ ∧ f_X9_isPlanned_13 K (lp (F := Nat → Int32 → Int64 → Int32 → Hp → Option (Int32 × Hp)) (fun _ _ _ _ _ => none) (f_X9_isPlanned_13 K) m) 108 (nI p) (lN (sF (fun w => jN J (6 * w + p)) w)) (nI w) h = _)
          generalize lp (F := Nat → Int32 → Int64 → Int32 → Hp → Option (Int32 × Hp)) (fun _ _ _ _ _ => none) (f_X9_isPlanned_13 K) m = K2 at ih
          by_cases h4 : w = 4
          · subst h4
            have jj : ∀ t, t < 4 → jN J (6 * t + p) < 2 ^ 31 := fun t ht => (jN_eq (h3 t ht)).2
            have b4 : sF (fun w => jN J (6 * w + p)) 4 < 2 ^ 40 := by
              have q0 := jj 0 (by decide)
              have q1 := jj 1 (by decide)
              have q2 := jj 2 (by decide)
              have q3 := jj 3 (by decide)
              show 0 + jN J (6 * 0 + p) + jN J (6 * 1 + p) + jN J (6 * 2 + p) + jN J (6 * 3 + p) < 2 ^ 40
              omega
            unfold f_X9_isPlanned_13
            rw [if_pos (show (4 : Int32) ≤ nI 4 by decide), if_pos (ix6 hp), cl6' hp, show h.1 (108 + 22) p = _ from e130 p hp, nI_l (by omega)]
            dsimp only [lt]
            rw [nI_1]
            by_cases z : sF (fun w => jN J (6 * w + p)) 4 = D p
            · right
              rw [if_pos (by rw [lg_eq0, z])]
              exact ⟨h3, z, rfl⟩
            · left
              rw [if_neg (by rw [lg_eq0, pk_lEQ (by omega) (by omega)]; exact z), if_pos isB0]
              exact ⟨_, rfl, rfl, fun t => z (t.2.2 p hp)⟩
          · have hw : w < 4 := by omega
            have hws := ws_le v hw
            unfold f_X9_isPlanned_13 f_X9_isPlanned_62
            rw [if_neg (show ¬ (4 : Int32) ≤ nI w from nI_ge (b := 4) hw (by decide)), c6, if_pos (ix24 (by omega)), nI_clamp (by omega), show h.1 (108 + 28) (6 * w + p) = _ from eJ _ (by omega)]
            dsimp only [lt]
            by_cases z : J (6 * w + p) < 0
            · left
              rw [if_pos z, if_pos isB0]
              exact ⟨_, rfl, rfl, fun t => t.1 _ (by omega) z⟩
            · obtain ⟨j1, j2⟩ := jN_eq z
              have go := ih (w + 1) (by omega) (by omega) (fun t ht => by
                by_cases et : t = w
                · rw [et]
                  exact z
                · exact h3 t (by omega))
              have es : sF (fun w => jN J (6 * w + p)) (w + 1) = sF (fun w => jN J (6 * w + p)) w + jN J (6 * w + p) := rfl
              rw [if_neg z, j1, nI_l j2, lN_add, nI_1, ← j1, ← es]
              by_cases zp : J (6 * w + p) ≤ 0
              · rw [if_pos zp]
                exact go
              · have pos : 0 < jN J (6 * w + p) := by
                  rcases Nat.eq_zero_or_pos (jN J (6 * w + p)) with q | q
                  · exact absurd (show J (6 * w + p) ≤ 0 by rw [j1, q]; decide) zp
                  · exact q
                rw [if_neg zp, seatsOf9 b hw, Option.bind_some]
                dsimp only
                by_cases zs : N (24 + w) = 0
                · left
                  rw [if_pos (by rw [zs]; rfl), if_pos isB0]
                  refine ⟨_, rfl, rfl, fun t => ?_⟩
                  have := t.2.1 w hw
                  have := sF_le (F := fun p => jN J (6 * w + p)) hp
                  omega
                · rw [if_neg (nI_ne0 (by omega) (by omega)), isIn9 v b hp, Option.bind_some]
                  dsimp only
                  by_cases hi : isInN N p = true
                  · rw [if_neg (by rw [if_pos hi]; exact one_ne)]
                    exact go
                  · left
                    rw [if_pos (if_neg hi), if_pos isB0]
                    refine ⟨_, rfl, rfl, fun t => ?_⟩
                    have := t.2.2 p hp
                    have := hD0 p hp (by simpa using hi)
                    have := sF_le (F := fun w => jN J (6 * w + p)) hw
                    omega
      exact gen 1000 0 (by omega) (by omega) (fun t ht => absurd ht (Nat.not_lt_zero t))
    rcases col with ⟨o, e1, e2, e3⟩ | ⟨e1, e2, e3⟩
    · right
      exact ⟨o, e1, by rw [e2], Or.inr ⟨e3, by rw [e2]⟩⟩
    · left
      refine ⟨(), fun t ht => ?_, e3⟩
      by_cases et : t = p
      · rw [et]
        exact ⟨e1, e2⟩
      · exact hI t (by omega)
  · intro K _ hI
    have hI1 : ∀ c, c < 24 → ¬ J c < 0 := fun c hc => by
      have := (hI (c % 6) (Nat.mod_lt c (by decide))).1 (c / 6) (by omega)
      rw [show 6 * (c / 6) + c % 6 = c by omega] at this
      exact this
    have jj : ∀ c, c < 24 → J c = nI (jN J c) ∧ jN J c < 2 ^ 31 := fun c hc => jN_eq (hI1 c hc)
    show ∃ b, f_X9_isPlanned_2 K 108 (nI 6) h = some b ∧ _
    unfold f_X9_isPlanned_2
    rw [if_pos (show (6 : Int32) ≤ nI 6 by decide)]
    have L96 := lp_invE (F := Nat → Int32 → Hp → Option (Int32 × Hp)) (bot := fun _ _ _ => none) (G := f_X9_isPlanned_96) (fun K i (_ : Unit) => K 108 (nI i) h) 4 (fun i _ => ∀ w, w < i → sF (fun p => jN J (6 * w + p)) 6 = N (24 + w)) (fun x => x.2 = h ∧ ((TK J N D ∧ x.1 = 1) ∨ (¬ TK J N D ∧ x.1 = 0))) ?_ ?_ 1000 0 () (by omega) (by omega) (fun w hw => absurd hw (Nat.not_lt_zero w))
    · exact L96
    · intro K2 w _ hw hI2
      have hws := ws_le v hw
      have bb := sF_b31 (f := fun p => jN J (6 * w + p)) (fun p hp => (jj _ (by omega)).2)
      show (∃ s', _ ∧ f_X9_isPlanned_96 K2 108 (nI w) h = _) ∨ ∃ b, f_X9_isPlanned_96 K2 108 (nI w) h = some b ∧ _
      unfold f_X9_isPlanned_96
      rw [if_neg (show ¬ (4 : Int32) ≤ nI w from nI_ge (b := 4) hw (by decide))]
      have s106 := lp_seq (F := Nat → Int32 → Int64 → Int32 → Hp → Option (Int32 × Hp)) (bot := fun _ _ _ _ _ => none) (G := f_X9_isPlanned_106 K2) (fun K i (x : Nat) => K 108 (nI w) (lN x) (nI i) h) 6 (fun i => sF (fun p => jN J (6 * w + p)) i) (if sF (fun p => jN J (6 * w + p)) 6 = N (24 + w) then K2 108 (nI (w + 1)) h else some (0, h)) ?_ ?_ 1000 0 (by omega) (by omega)
      · have s106' : lp (F := Nat → Int32 → Int64 → Int32 → Hp → Option (Int32 × Hp)) (fun _ _ _ _ _ => none) (f_X9_isPlanned_106 K2) 1000 108 (nI w) 0 0 h = _ := s106
        rw [s106']
        by_cases z : sF (fun p => jN J (6 * w + p)) 6 = N (24 + w)
        · left
          rw [if_pos z]
          refine ⟨(), fun t ht => ?_, rfl⟩
          by_cases et : t = w
          · rw [et]
            exact z
          · exact hI2 t (by omega)
        · right
          rw [if_neg z]
          exact ⟨_, rfl, rfl, Or.inr ⟨fun t => z (t.2.1 w hw), rfl⟩⟩
      · intro K3 p hp
        obtain ⟨j1, j2⟩ := jj (6 * w + p) (by omega)
        show f_X9_isPlanned_106 K2 K3 108 (nI w) (lN (sF (fun p => jN J (6 * w + p)) p)) (nI p) h = K3 108 (nI w) (lN (sF (fun p => jN J (6 * w + p)) p + jN J (6 * w + p))) (nI (p + 1)) h
        unfold f_X9_isPlanned_106
        rw [if_neg (ge6 hp), c6, if_pos (ix24 (by omega)), nI_clamp (by omega), show h.1 (108 + 28) (6 * w + p) = _ from eJ _ (by omega)]
        dsimp only [lt]
        rw [j1, nI_l j2, lN_add, nI_1]
      · intro K3
        have b6 := bb 6 (Nat.le_refl 6)
        show f_X9_isPlanned_106 K2 K3 108 (nI w) (lN (sF (fun p => jN J (6 * w + p)) 6)) (nI 6) h = _
        unfold f_X9_isPlanned_106
        rw [if_pos (show (6 : Int32) ≤ nI 6 by decide), seatsOf9 b hw, Option.bind_some]
        dsimp only [lt]
        rw [nI_l (by omega), nI_1]
        by_cases z : sF (fun p => jN J (6 * w + p)) 6 = N (24 + w)
        · rw [if_pos z, if_pos (by rw [lg_eq0, z])]
        · rw [if_neg z, if_neg (by rw [lg_eq0, pk_lEQ (by omega) (by omega)]; exact z), if_pos isB0]
    · intro K2 _ hI2
      show ∃ b, f_X9_isPlanned_96 K2 108 (nI 4) h = some b ∧ _
      unfold f_X9_isPlanned_96
      rw [if_pos (show (4 : Int32) ≤ nI 4 by decide), if_pos isB1]
      exact ⟨_, rfl, rfl, Or.inl ⟨⟨hI1, hI2, fun p hp => (hI p hp).2⟩, rfl⟩⟩
