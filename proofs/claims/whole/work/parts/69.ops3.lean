theorem w8_le {x y : Int32} {a b : Nat} (hx : x = nI a) (hy : y = nI b) (ha : a < 2 ^ 31) (hb : b < 2 ^ 31) : x ≤ y ↔ a ≤ b := by
  rw [hx, hy, nI_leI ha hb]
section OPS3
variable {PK : (Nat → Nat) → Hp → Prop}
theorem op_differ (hPK : PKok PK) (z1 z2 z3 : Int32) : Op (Rel PK) (fun h => f_X8_differ 0 z1 z2 z3 h) (fun h => f_X9_differ 108 z1 z2 z3 h) := by
  intro h ⟨N, hR⟩
  rcases rng z2 6 (by decide) with ⟨w1, hw1, rfl⟩ | o2
  · rcases rng z3 6 (by decide) with ⟨w2, hw2, rfl⟩ | o3
    · rcases rng z1 60 (by decide) with ⟨H, hH, rfl⟩ | o1
      · have v := hR.1
        obtain ⟨b, e, ef, ec⟩ := fillB8 v hw1 (G := 16) (p := 1) (by decide) hs16 hR.2.1 hH
        have R1 := hR.keep hPK (kpA ef)
        by_cases k1 : okHb N w1 H = true
        · obtain ⟨b2, e2, ef2, ec2⟩ := fillB8 v hw2 (G := 36) (p := 1) (by decide) hs36 R1.2.1 hH
          have R2 := R1.keep hPK (kpB ef2)
          obtain ⟨c, g, gf, gc⟩ := hs9 R2.2.2.1 v hw1 hH
          have R3 := R2.keep hPK (kp9 gf)
          obtain ⟨c2, g2, gf2, gc2⟩ := holdsH9 (gc k1).2.1
          have R4 := R3.keep hPK (kp9h gf2)
          obtain ⟨c3, g3, gf3, gc3⟩ := hs9 R4.2.2.1 v hw2 hH
          have R5 := R4.keep hPK (kp9 gf3)
          by_cases k2 : okHb N w2 H = true
          · have p1 : ∀ k, k < 6 → pS N w1 H k ≤ 60 := fun k hk => by
              have := pS_le v k1 hk
              omega
            have p2 : ∀ k, k < 6 → pS N w2 H k ≤ 60 := fun k hk => by
              have := pS_le v k2 hk
              omega
            have hb := awy_le p1 p2
            have aw := away8 (h := b2) (A := 16) (B := 36) p1 p2 (fun k hk => by rw [(ef2 26 (by omega) (by simp)).1]; exact (ec k1).2.2 k hk) (ec2 k2).2.2
            have df := differs9 (h := c3) p2 p1 (gc3 k2).2.1 (fun k hk => by rw [gf3.1 126 (by decide) (by decide)]; exact gc2 k hk)
            refine ⟨nI (awy (pS N w1 H) (pS N w2 H) / 2), b2, c3, ?_, ?_, ⟨N, R5⟩⟩
            · dsimp only
              unfold f_X8_differ
              simp only [w8i_6 _ hw1, w8i_6 _ hw2, w8i_60 _ hH, Option.bind_some, one_ne, if_false, show 0 + 16 = 16 from rfl, show 0 + 36 = 36 from rfl, show 0 + 1 = 1 from rfl, e, if_pos k1, e2, if_pos k2, aw]
              rw [if_neg (by decide), show (2 : Int32) = nI 2 from rfl, pk_div (by omega) (by decide) (by decide)]
            · dsimp only
              unfold f_X9_differ
              simp only [w9i_0_6 _ (Nat.zero_le _) hw1, w9i_0_6 _ (Nat.zero_le _) hw2, isHousei _ hH, Option.bind_some, one_ne, if_false, g, if_pos k1, g2, g3, if_pos k2, df]
              rw [awy_comm]
          · refine ⟨-3, b2, c3, ?_, ?_, ⟨N, R5⟩⟩
            · dsimp only
              unfold f_X8_differ
              simp only [w8i_6 _ hw1, w8i_6 _ hw2, w8i_60 _ hH, Option.bind_some, one_ne, if_false, show 0 + 16 = 16 from rfl, show 0 + 36 = 36 from rfl, show 0 + 1 = 1 from rfl, e, if_pos k1, e2, if_neg k2, if_true]
            · dsimp only
              unfold f_X9_differ
              simp only [w9i_0_6 _ (Nat.zero_le _) hw1, w9i_0_6 _ (Nat.zero_le _) hw2, isHousei _ hH, Option.bind_some, one_ne, if_false, g, if_pos k1, g2, g3, if_neg k2, if_true]
        · obtain ⟨c, g, gf, gc⟩ := hs9 R1.2.2.1 v hw1 hH
          have R3 := R1.keep hPK (kp9 gf)
          refine ⟨-3, b, c, ?_, ?_, ⟨N, R3⟩⟩
          · dsimp only
            unfold f_X8_differ
            simp only [w8i_6 _ hw1, w8i_6 _ hw2, w8i_60 _ hH, Option.bind_some, one_ne, if_false, show 0 + 16 = 16 from rfl, show 0 + 1 = 1 from rfl, e, if_neg k1, if_true]
          · dsimp only
            unfold f_X9_differ
            simp only [w9i_0_6 _ (Nat.zero_le _) hw1, w9i_0_6 _ (Nat.zero_le _) hw2, isHousei _ hH, Option.bind_some, one_ne, if_false, g, if_neg k1, if_true]
      · refine same_op (r := -2) ⟨N, hR⟩ ?_ ?_
        · unfold f_X8_differ
          simp only [w8i_6 _ hw1, w8i_6 _ hw2, w8o_60 _ o1, Option.bind_some, one_ne, if_false, if_true]
        · unfold f_X9_differ
          simp only [w9i_0_6 _ (Nat.zero_le _) hw1, w9i_0_6 _ (Nat.zero_le _) hw2, isHouseo _ o1, Option.bind_some, one_ne, if_false, if_true]
    · refine same_op (r := -1) ⟨N, hR⟩ ?_ ?_
      · unfold f_X8_differ
        simp only [w8i_6 _ hw1, w8o_6 _ o3, Option.bind_some, one_ne, if_false, if_true]
      · unfold f_X9_differ
        simp only [w9i_0_6 _ (Nat.zero_le _) hw1, w9o_0_6 _ o3, Option.bind_some, one_ne, if_false, if_true]
  · refine same_op (r := -1) ⟨N, hR⟩ ?_ ?_
    · unfold f_X8_differ
      simp only [w8o_6 _ o2, Option.bind_some, if_true]
    · unfold f_X9_differ
      simp only [w9o_0_6 _ o2, Option.bind_some, if_true]
/-- ways alike -/
def alkQ (N : Nat → Nat) (w H i : Nat) : Bool := okHb N i H && decide (awy (pS N i H) (pS N w H) = 0)
theorem op_alike (hPK : PKok PK) (z1 : Int32) : Op (Rel PK) (fun h => f_X8_alike 0 z1 h) (fun h => f_X9_alike 108 z1 h) := by
  intro h ⟨N, hR⟩
  have v := hR.1
  rcases rng z1 60 (by decide) with ⟨H, hH, rfl⟩ | o1
  · obtain ⟨b, e, ef, ec⟩ := fillNow8 hR.2.1 v hH
    have R1 := hR.keep hPK (kpA ef)
    by_cases k1 : okHb N (N 41) H = true
    · have p1 : ∀ k, k < 6 → pS N (N 41) H k ≤ 60 := fun k hk => by
        have := pS_le v k1 hk
        omega
      have L8 : ∃ q, lp (F := Nat → Int32 → Int32 → Int32 → Hp → Option (Int32 × Hp)) (fun _ _ _ _ _ => none) f_X8_alike_17 1000 0 (nI H) 0 0 b = some q ∧ (q.1 = fu (bitS (alkQ N (N 41) H)) 7 0 ∧ Fc 36 56 [] b q.2) := by
        refine lp_inv (F := Nat → Int32 → Int32 → Int32 → Hp → Option (Int32 × Hp)) (bot := fun _ _ _ _ _ => none) (G := f_X8_alike_17) (fun K i (s : Int32 × Hp) => K 0 (nI H) s.1 (nI i) s.2) 7 (fun i s => s.1 = fu (bitS (alkQ N (N 41) H)) i 0 ∧ Fc 36 56 [] b s.2) _ ?_ ?_ 1000 0 (0, b) (by omega) (by omega) ⟨rfl, Fc.refl⟩
        · rintro K i ⟨x, h2⟩ hi ⟨c1, c2⟩
          dsimp only at c1 c2
          obtain ⟨b2, e2, ef2, ec2⟩ := fillB8 v (show i ≤ 6 by omega) (G := 36) (p := 1) (by decide) hs36 ((R1.keep hPK (kpB c2)).2.1) hH
          refine ⟨(bitS (alkQ N (N 41) H) i x, b2), ⟨?_, c2.trans ef2⟩, ?_⟩
          · show _ = bitS (alkQ N (N 41) H) i (fu (bitS (alkQ N (N 41) H)) i 0)
            rw [← c1]
          · show f_X8_alike_17 K 0 (nI H) x (nI i) h2 = _
            unfold f_X8_alike_17 f_X8_alike_62
            rw [if_neg (show ¬ (7 : Int32) ≤ nI i from nI_ge hi (by decide)), show f_X1_fill (0 + 36) (0 + 1) (nI i) (nI H) h2 = _ from e2]
            simp only [Option.bind_some, lt, nI_1]
            by_cases k2 : okHb N i H = true
            · have p2 : ∀ k, k < 6 → pS N i H k ≤ 60 := fun k hk => by
                have := pS_le v k2 hk
                omega
              have hb := awy_le p2 p1
              have aw := away8 (h := b2) (A := 36) (B := 16) p2 p1 (ec2 k2).2.2 (fun k hk => by rw [((c2.trans ef2) 26 (by omega) (by simp)).1]; exact (ec k1).2.2 k hk)
              rw [if_pos k2, if_neg one_ne, show f_X1_awayFrom (0 + 36) (0 + 16) b2 = _ from aw]
              simp only [Option.bind_some]
              by_cases z : awy (pS N i H) (pS N (N 41) H) = 0
              · rw [if_pos (by rw [z]; rfl), bitS_t _ (by unfold alkQ; simp [k2, z])]
              · rw [if_neg (nI_ne0 (by omega) (by omega)), bitS_f _ (by unfold alkQ; simp [z])]
            · rw [if_neg k2, if_pos rfl, bitS_f _ (by unfold alkQ; simp [k2])]
        · rintro K ⟨x, h2⟩ ⟨c1, c2⟩
          show ∃ b, f_X8_alike_17 K 0 (nI H) x (nI 7) h2 = some b ∧ _
          unfold f_X8_alike_17
          rw [if_pos (show (7 : Int32) ≤ nI 7 by decide)]
          exact ⟨_, rfl, c1, c2⟩
      obtain ⟨⟨x, b3⟩, e3, c3, f3⟩ := L8
      dsimp only at c3 f3
      subst c3
      have R2 := R1.keep hPK (kpB f3)
      obtain ⟨c, g, gf, gc⟩ := hs9 R2.2.2.1 v v.w hH
      have R3 := R2.keep hPK (kp9 gf)
      obtain ⟨c2, g2, gf2, gc2⟩ := holdsH9 (gc k1).2.1
      have R4 := R3.keep hPK (kp9h gf2)
      have L9 : ∃ q, lp (F := Nat → Int32 → Int32 → Int32 → Hp → Option (Int32 × Hp)) (fun _ _ _ _ _ => none) f_X9_alike_33 1000 108 (nI H) 0 0 c2 = some q ∧ (q.1 = fu (bitS (alkQ N (N 41) H)) 7 0 ∧ Fx HR [14, 15, 24, 25] c2 q.2) := by
        refine lp_inv (F := Nat → Int32 → Int32 → Int32 → Hp → Option (Int32 × Hp)) (bot := fun _ _ _ _ _ => none) (G := f_X9_alike_33) (fun K i (s : Int32 × Hp) => K 108 (nI H) s.1 (nI i) s.2) 7 (fun i s => s.1 = fu (bitS (alkQ N (N 41) H)) i 0 ∧ Fx HR [14, 15, 24, 25] c2 s.2) _ ?_ ?_ 1000 0 (0, c2) (by omega) (by omega) ⟨rfl, Fx.refl⟩
        · rintro K i ⟨x, h2⟩ hi ⟨d1, d2⟩
          dsimp only at d1 d2
          obtain ⟨b2, e2, ef2, ec2⟩ := hs9 ((R4.keep hPK (kp9 d2)).2.2.1) v (show i ≤ 6 by omega) hH
          refine ⟨(bitS (alkQ N (N 41) H) i x, b2), ⟨?_, d2.trans ef2⟩, ?_⟩
          · show _ = bitS (alkQ N (N 41) H) i (fu (bitS (alkQ N (N 41) H)) i 0)
            rw [← d1]
          · show f_X9_alike_33 K 108 (nI H) x (nI i) h2 = _
            unfold f_X9_alike_33 f_X9_alike_62 f_X9_alike_63
            rw [if_neg (show ¬ (6 : Int32) < nI i from nI_nlt (a := 6) (by omega) (by decide)), e2]
            simp only [Option.bind_some, lt, nI_1, or0]
            by_cases k2 : okHb N i H = true
            · have p2 : ∀ k, k < 6 → pS N i H k ≤ 60 := fun k hk => by
                have := pS_le v k2 hk
                omega
              have hb := awy_le p2 p1
              have ev := awy_even (P := pS N i H) (Q := pS N (N 41) H) (by rw [pS_sum v k2, pS_sum v k1])
              have df := differs9 (h := b2) p2 p1 (ec2 k2).2.1 (fun k hk => by rw [(d2.trans ef2).1 126 (by decide) (by decide)]; exact gc2 k hk)
              rw [if_pos k2, if_neg one_ne, df]
              simp only [Option.bind_some]
              by_cases z : awy (pS N i H) (pS N (N 41) H) = 0
              · rw [if_pos (by rw [z]; rfl), bitS_t _ (by unfold alkQ; simp [k2, z])]
              · rw [if_neg (nI_ne0 (by omega) (by omega)), bitS_f _ (by unfold alkQ; simp [z])]
            · rw [if_neg k2, if_pos rfl, bitS_f _ (by unfold alkQ; simp [k2])]
        · rintro K ⟨x, h2⟩ ⟨d1, d2⟩
          show ∃ b, f_X9_alike_33 K 108 (nI H) x (nI 7) h2 = some b ∧ _
          unfold f_X9_alike_33
          rw [if_pos (show (6 : Int32) < nI 7 by decide)]
          exact ⟨_, rfl, d1, d2⟩
      obtain ⟨⟨x9, b9⟩, e9, c9, f9⟩ := L9
      dsimp only at c9 f9
      subst c9
      refine ⟨fu (bitS (alkQ N (N 41) H)) 7 0, b3, b9, ?_, ?_, ⟨N, R4.keep hPK (kp9 f9)⟩⟩
      · dsimp only
        unfold f_X8_alike
        simp only [e, Option.bind_some, if_pos k1, if_true]
        exact e3
      · dsimp only
        unfold f_X9_alike
        simp only [isHousei _ hH, Option.bind_some, one_ne, if_false, wayNow9 R2.2.2.1, g, if_pos k1, g2]
        exact e9
    · obtain ⟨c, g, gf, gc⟩ := hs9 R1.2.2.1 v v.w hH
      refine ⟨-3, b, c, ?_, ?_, ⟨N, R1.keep hPK (kp9 gf)⟩⟩
      · dsimp only
        unfold f_X8_alike
        simp only [e, Option.bind_some, if_neg k1, m3_ne, if_false]
      · dsimp only
        unfold f_X9_alike
        simp only [isHousei _ hH, Option.bind_some, one_ne, if_false, wayNow9 R1.2.2.1, g, if_neg k1, if_true]
  · refine same_op (r := -2) ⟨N, hR⟩ ?_ ?_
    · unfold f_X8_alike
      simp only [fillNow8o _ o1, Option.bind_some, m2_ne, if_false]
    · unfold f_X9_alike
      simp only [isHouseo _ o1, Option.bind_some, if_true]
theorem bi_l5 (o : Option Nat) (hb : ∀ k, o = some k → k < 6) : (if bi o < 0 then (-5 : Int32) else bi o) = l5 o := by
  cases o with
  | none => rfl
  | some k => exact if_neg (nI_pos (by have := hb k rfl; omega))
theorem blo_lt {P Q : Nat → Nat} {k : Nat} (h : blo P Q = some k) : k < 6 := by
  have := ff_lt h
  omega
theorem op_loser (hPK : PKok PK) (z1 : Int32) : Op (Rel PK) (fun h => f_X8_loser 0 z1 h) (fun h => f_X9_loser 108 z1 h) := by
  intro h ⟨N, hR⟩
  have v := hR.1
  have bad : ∀ z : Int32, (z < nI 1 ∨ nI 60 < z) → f_X8_loser 0 z h = some (-2, h) := fun z o => by
    unfold f_X8_loser
    by_cases q : z < 1
    · rw [if_pos q]
    · rw [if_neg q, if_neg (Int32.not_le.mpr (show 60 < z from o.resolve_left q))]
  have bad9 : ∀ z : Int32, (z < nI 1 ∨ nI 60 < z) → f_X9_loser 108 z h = some (-2, h) := fun z o => by
    unfold f_X9_loser
    simp only [w9o_1_60 h o, Option.bind_some, if_true]
  rcases rng z1 60 (by decide) with ⟨H, hH, rfl⟩ | o1
  · by_cases h1 : 1 ≤ H
    · have ew : h.1 (0 + 1) 5 = nI (N 41) := hR.2.1 41 (by decide)
      obtain ⟨b, e, ef, ec⟩ := fillB8 v v.w (G := 36) (p := 1) (by decide) hs36 hR.2.1 (show H - 1 ≤ 60 by omega)
      have R1 := hR.keep hPK (kpB ef)
      have ew1 : b.1 (0 + 1) 5 = nI (N 41) := R1.2.1 41 (by decide)
      have E8 : ∃ b2, f_X8_loser 0 (nI H) h = some (l5 (lossN N (N 41) H), b2) ∧ Keep h b2 := by
        unfold f_X8_loser lossN
        rw [if_neg (show ¬ nI H < 1 from nI_nlt (b := 1) h1 (by omega)), if_pos (show nI H ≤ 60 from nI_le (b := 60) hH (by decide)), ew, nI_m1 h1, show f_X1_fill (0 + 36) (0 + 1) (nI (N 41)) (nI (H - 1)) h = _ from e]
        simp only [Option.bind_some]
        by_cases k1 : okHb N (N 41) (H - 1) = true
        · obtain ⟨b2, e2, ef2, ec2⟩ := fillB8 v v.w (G := 16) (p := 1) (by decide) hs16 R1.2.1 hH
          rw [if_pos k1, if_neg one_ne, ew1, show f_X1_fill (0 + 16) (0 + 1) (nI (N 41)) (nI H) b = _ from e2, k1, Bool.true_and]
          simp only [Option.bind_some]
          by_cases k2 : okHb N (N 41) H = true
          · have lb := below8 (h := b2) (A := 16) (B := 36) (P := pS N (N 41) H) (Q := pS N (N 41) (H - 1)) (fun k hk => by have := pS_le v k2 hk; omega) (fun k hk => by have := pS_le v k1 hk; omega) (ec2 k2).2.2 (fun k hk => by rw [(ef2 46 (by omega) (by simp)).1]; exact (ec k1).2.2 k hk)
            rw [if_pos k2, if_neg one_ne, show f_X1_leastBelow (0 + 16) (0 + 36) b2 = _ from lb, if_pos k2]
            simp only [Option.bind_some]
            have q := bi_l5 (blo (pS N (N 41) H) (pS N (N 41) (H - 1))) (fun k hk => blo_lt hk)
            refine ⟨b2, ?_, (kpB ef).trans (kpA ef2)⟩
            rw [← q]
            by_cases z : bi (blo (pS N (N 41) H) (pS N (N 41) (H - 1))) < 0
            · rw [if_pos z, if_pos z]
            · rw [if_neg z, if_neg z]
          · rw [if_neg k2, if_pos rfl, if_neg k2]
            exact ⟨b2, rfl, (kpB ef).trans (kpA ef2)⟩
        · rw [if_neg k1, if_pos rfl, if_neg (by rw [Bool.and_eq_true]; exact fun z => k1 z.1)]
          exact ⟨b, rfl, kpB ef⟩
      obtain ⟨b2, E8, K8⟩ := E8
      have R2 := hR.keep hPK K8
      obtain ⟨o, e9, f9⟩ := losesAt9 R2.2.2.1 v h1 hH
      refine ⟨_, b2, o, E8, ?_, ⟨N, R2.keep hPK (kp9b f9)⟩⟩
      dsimp only
      unfold f_X9_loser
      simp only [w9i_1_60 _ h1 hH, Option.bind_some, one_ne, if_false, e9]
    · have hz : H = 0 := by omega
      subst hz
      have o : nI 0 < nI 1 ∨ nI 60 < nI 0 := Or.inl (by decide)
      exact same_op (r := -2) ⟨N, hR⟩ (bad _ o) (bad9 _ o)
  · have o : z1 < nI 1 ∨ nI 60 < z1 := by
      rcases o1 with o1 | o1
      · exact Or.inl (Int32.lt_trans o1 (by decide))
      · exact Or.inr o1
    exact same_op (r := -2) ⟨N, hR⟩ (bad _ o) (bad9 _ o)
/-- the first house in which somebody loses -/
def losN (N : Nat → Nat) (w a b : Nat) : Option Nat := ff (fun i => (lossN N w i).isSome) (b - a) (a + 1)
theorem op_loses (hPK : PKok PK) (z1 z2 : Int32) : Op (Rel PK) (fun h => f_X8_loses 0 z1 z2 h) (fun h => f_X9_loses 108 z1 z2 h) := by
  intro h ⟨N, hR⟩
  have v := hR.1
  rcases rng z1 60 (by decide) with ⟨A, hA, rfl⟩ | o1
  · rcases rng z2 60 (by decide) with ⟨B, hB, rfl⟩ | o2
    · by_cases hab : A ≤ B
      · have ew : h.1 (0 + 1) 5 = nI (N 41) := hR.2.1 41 (by decide)
        obtain ⟨b, e, ef, ec⟩ := fillB8 v v.w (G := 16) (p := 1) (by decide) hs16 hR.2.1 hA
        have R1 := hR.keep hPK (kpA ef)
        have L8 : ∃ q, lp (F := Nat → Int32 → Nat → Nat → Int32 → Int32 → Hp → Option (Int32 × Hp)) (fun _ _ _ _ _ _ _ => none) f_X8_loses_60 1000 0 (nI B) 16 36 (if okHb N (N 41) A = true then 1 else 0) (nI (A + 1)) b = some q ∧ (q.1 = l5 (losN N (N 41) A B) ∧ Keep b q.2) := by
          refine lp_invE (F := Nat → Int32 → Nat → Nat → Int32 → Int32 → Hp → Option (Int32 × Hp)) (bot := fun _ _ _ _ _ _ _ => none) (G := f_X8_loses_60) (fun K i (s : Nat × Nat × Hp) => K 0 (nI B) s.1 s.2.1 (if okHb N (N 41) (i - 1) = true then 1 else 0) (nI i) s.2.2) (B + 1) (fun i s => ((s.1 = 16 ∧ s.2.1 = 36) ∨ (s.1 = 36 ∧ s.2.1 = 16)) ∧ Keep b s.2.2 ∧ A + 1 ≤ i ∧ (okHb N (N 41) (i - 1) = true → ClH N (N 41) (i - 1) s.2.2 s.1) ∧ ∀ j, A + 1 ≤ j → j < i → (lossN N (N 41) j).isSome = false) _ ?_ ?_ 1000 (A + 1) (16, 36, b) (by omega) (by omega) ⟨Or.inl ⟨rfl, rfl⟩, Keep.refl, Nat.le_refl _, ec, fun j h1 h2 => by omega⟩
          · rintro K i ⟨s1, s2, h2⟩ hi ⟨c1, c2, c3, c4, c5⟩
            dsimp only at c1 c2 c4
            have Rk := R1.keep hPK c2
            have ew2 : h2.1 (0 + 1) 5 = nI (N 41) := Rk.2.1 41 (by decide)
            have hs : HsL s2 ∧ 1 + 5 ≤ s2 := by
              rcases c1 with ⟨-, rfl⟩ | ⟨-, rfl⟩
              · exact ⟨hs36, by decide⟩
              · exact ⟨hs16, by decide⟩
            obtain ⟨b2, e2, ef2, ec2⟩ := fillB8 v v.w (G := s2) (p := 1) hs.2 hs.1 Rk.2.1 (show i ≤ 60 by omega)
            have kp : Keep h2 b2 := by
              rcases c1 with ⟨-, rfl⟩ | ⟨-, rfl⟩
              · exact kpB ef2
              · exact kpA ef2
            have hcl : okHb N (N 41) (i - 1) = true → ∀ k, k < 6 → b2.1 (s1 + 10) k = nI (pS N (N 41) (i - 1) k) := fun ok k hk => by
              rcases c1 with ⟨q1, q2⟩ | ⟨q1, q2⟩
              · subst q1 q2
                rw [(ef2 26 (by omega) (by simp)).1]
                exact (c4 ok).2.2 k hk
              · subst q1 q2
                rw [(ef2 46 (by omega) (by simp)).1]
                exact (c4 ok).2.2 k hk
            have go : (lossN N (N 41) i).isSome = false → ∃ s' : Nat × Nat × Hp, (((s'.1 = 16 ∧ s'.2.1 = 36) ∨ (s'.1 = 36 ∧ s'.2.1 = 16)) ∧ Keep b s'.2.2 ∧ A + 1 ≤ i + 1 ∧ (okHb N (N 41) (i + 1 - 1) = true → ClH N (N 41) (i + 1 - 1) s'.2.2 s'.1) ∧ ∀ j, A + 1 ≤ j → j < i + 1 → (lossN N (N 41) j).isSome = false) ∧ K 0 (nI B) s2 s1 (if okHb N (N 41) i = true then 1 else 0) (nI (i + 1)) b2 = K 0 (nI B) s'.1 s'.2.1 (if okHb N (N 41) (i + 1 - 1) = true then 1 else 0) (nI (i + 1)) s'.2.2 := fun hz => by
              refine ⟨(s2, s1, b2), ⟨?_, c2.trans kp, by omega, ?_, fun j h5 h6 => ?_⟩, ?_⟩
              · dsimp only
                omega
              · rw [show i + 1 - 1 = i by omega]
                exact ec2
              · by_cases ej : j = i
                · rw [ej]
                  exact hz
                · exact c5 j h5 (by omega)
              · rw [show i + 1 - 1 = i by omega]
            show (∃ s', _ ∧ f_X8_loses_60 K 0 (nI B) s1 s2 _ (nI i) h2 = _) ∨ ∃ q, f_X8_loses_60 K 0 (nI B) s1 s2 _ (nI i) h2 = some q ∧ _
            unfold f_X8_loses_60 f_X8_loses_108
            rw [if_neg (nI_nlt (by omega) (by omega)), ew2, show f_X1_fill s2 (0 + 1) (nI (N 41)) (nI i) h2 = _ from e2]
            simp only [Option.bind_some, lt, nI_1]
            by_cases k1 : okHb N (N 41) (i - 1) = true
            · rw [if_pos k1, if_neg one_ne]
              by_cases k2 : okHb N (N 41) i = true
              · have lb := below8 (h := b2) (A := s2) (B := s1) (P := pS N (N 41) i) (Q := pS N (N 41) (i - 1)) (fun k hk => by have := pS_le v k2 hk; omega) (fun k hk => by have := pS_le v k1 hk; omega) (ec2 k2).2.2 (hcl k1)
                have el : lossN N (N 41) i = blo (pS N (N 41) i) (pS N (N 41) (i - 1)) := by
                  unfold lossN
                  rw [k1, k2]
                  rfl
                have g := go
                rw [if_pos k2] at g ⊢
                rw [if_neg one_ne, lb]
                simp only [Option.bind_some]
                cases hq : blo (pS N (N 41) i) (pS N (N 41) (i - 1)) with
                | none =>
                  left
                  rw [if_pos (show bi none < 0 by decide)]
                  exact g (by rw [el, hq]; rfl)
                | some m =>
                  right
                  have := blo_lt hq
                  rw [if_neg (show ¬ bi (some m) < 0 from nI_pos (by omega))]
                  refine ⟨_, rfl, ?_, c2.trans kp⟩
                  show nI i = _
                  unfold losN
                  rw [ff_some (c := fun i => (lossN N (N 41) i).isSome) c3 (by omega) c5 (by rw [el, hq]; rfl)]
                  rfl
              · left
                have g := go (by unfold lossN; rw [if_neg (by rw [Bool.and_eq_true]; exact fun z => k2 z.2)]; rfl)
                rw [if_neg k2] at g ⊢
                rw [if_pos rfl]
                exact g
            · left
              rw [if_neg k1, if_pos rfl]
              exact go (by unfold lossN; rw [if_neg (by rw [Bool.and_eq_true]; exact fun z => k1 z.1)]; rfl)
          · rintro K ⟨s1, s2, h2⟩ ⟨c1, c2, c3, c4, c5⟩
            show ∃ q, f_X8_loses_60 K 0 (nI B) s1 s2 _ (nI (B + 1)) h2 = some q ∧ _
            unfold f_X8_loses_60
            rw [if_pos (nI_lt (by omega) (by omega))]
            refine ⟨_, rfl, ?_, c2⟩
            unfold losN
            rw [ff_none (c := fun i => (lossN N (N 41) i).isSome) (fun j h5 h6 => c5 j h5 (by omega))]
            rfl
        obtain ⟨⟨x, b3⟩, e3, c3, f3⟩ := L8
        dsimp only at c3 f3
        subst c3
        have R2 := R1.keep hPK f3
        have L9 : ∃ q, lp (F := Nat → Int32 → Int32 → Hp → Option (Int32 × Hp)) (fun _ _ _ _ => none) f_X9_loses_26 1000 108 (nI B) (nI (A + 1)) b3 = some q ∧ (q.1 = l5 (losN N (N 41) A B) ∧ Keep b3 q.2) := by
          refine lp_invE (F := Nat → Int32 → Int32 → Hp → Option (Int32 × Hp)) (bot := fun _ _ _ _ => none) (G := f_X9_loses_26) (fun K i (s : Hp) => K 108 (nI B) (nI i) s) (B + 1) (fun i s => Keep b3 s ∧ A + 1 ≤ i ∧ ∀ j, A + 1 ≤ j → j < i → (lossN N (N 41) j).isSome = false) _ ?_ ?_ 1000 (A + 1) b3 (by omega) (by omega) ⟨Keep.refl, Nat.le_refl _, fun j h1 h2 => by omega⟩
          · rintro K i h2 hi ⟨c2, c3, c5⟩
            have Rk := R2.keep hPK c2
            obtain ⟨o, e9, f9⟩ := losesAt9 Rk.2.2.1 v (show 1 ≤ i by omega) (show i ≤ 60 by omega)
            show (∃ s', _ ∧ f_X9_loses_26 K 108 (nI B) (nI i) h2 = _) ∨ ∃ q, f_X9_loses_26 K 108 (nI B) (nI i) h2 = some q ∧ _
            unfold f_X9_loses_26
            rw [if_neg (nI_nlt (by omega) (by omega)), e9]
            simp only [Option.bind_some, lt, nI_1]
            cases hq : lossN N (N 41) i with
            | none =>
              left
              rw [if_pos (show l5 none = -5 from rfl)]
              refine ⟨o, ⟨c2.trans (kp9b f9), by omega, fun j h5 h6 => ?_⟩, rfl⟩
              by_cases ej : j = i
              · rw [ej, hq]
                rfl
              · exact c5 j h5 (by omega)
            | some m =>
              right
              have hm : m < 6 := by
                unfold lossN at hq
                by_cases z : (okHb N (N 41) (i - 1) && okHb N (N 41) i) = true
                · rw [if_pos z] at hq
                  exact blo_lt hq
                · rw [if_neg z] at hq
                  cases hq
              rw [if_neg (show ¬ l5 (some m) = -5 from fun z => nI_pos (n := m) (by omega) (by rw [show nI m = -5 from z]; decide))]
              refine ⟨_, rfl, ?_, c2.trans (kp9b f9)⟩
              show nI i = _
              unfold losN
              rw [ff_some (c := fun i => (lossN N (N 41) i).isSome) c3 (by omega) c5 (by rw [hq]; rfl)]
              rfl
          · rintro K h2 ⟨c2, c3, c5⟩
            show ∃ q, f_X9_loses_26 K 108 (nI B) (nI (B + 1)) h2 = some q ∧ _
            unfold f_X9_loses_26
            rw [if_pos (nI_lt (by omega) (by omega))]
            refine ⟨_, rfl, ?_, c2⟩
            unfold losN
            rw [ff_none (c := fun i => (lossN N (N 41) i).isSome) (fun j h5 h6 => c5 j h5 (by omega))]
            rfl
        obtain ⟨⟨x9, b9⟩, e9, c9, f9⟩ := L9
        dsimp only at c9 f9
        subst c9
        refine ⟨l5 (losN N (N 41) A B), b3, b9, ?_, ?_, ⟨N, R2.keep hPK f9⟩⟩
        · dsimp only
          unfold f_X8_loses
          simp only [w8i_60 _ hA, w8i_60 _ hB, Option.bind_some, one_ne, if_false, ew]
          rw [if_pos (nI_le hab (by omega)), show f_X1_fill (0 + 16) (0 + 1) (nI (N 41)) (nI A) h = _ from e]
          simp only [Option.bind_some, lt, nI_1]
          exact e3
        · dsimp only
          unfold f_X9_loses
          simp only [isHousei _ hA, isHousei _ hB, Option.bind_some, one_ne, if_false]
          rw [if_pos (nI_le hab (by omega))]
          simp only [lt, nI_1]
          exact e9
      · have g3 : ¬ nI A ≤ nI B := nI_ge (by omega) (by omega)
        refine same_op (r := -2) ⟨N, hR⟩ ?_ ?_
        · unfold f_X8_loses
          simp only [w8i_60 _ hA, w8i_60 _ hB, Option.bind_some, one_ne, if_false, g3]
        · unfold f_X9_loses
          simp only [isHousei _ hA, isHousei _ hB, Option.bind_some, one_ne, if_false, g3]
    · refine same_op (r := -2) ⟨N, hR⟩ ?_ ?_
      · unfold f_X8_loses
        simp only [w8i_60 _ hA, w8o_60 _ o2, Option.bind_some, one_ne, if_false, if_true]
      · unfold f_X9_loses
        simp only [isHousei _ hA, isHouseo _ o2, Option.bind_some, one_ne, if_false, if_true]
  · refine same_op (r := -2) ⟨N, hR⟩ ?_ ?_
    · unfold f_X8_loses
      simp only [w8o_60 _ o1, Option.bind_some, if_true]
    · unfold f_X9_loses
      simp only [isHouseo _ o1, Option.bind_some, if_true]
end OPS3
