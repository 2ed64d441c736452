abbrev MR : List Nat := [113, 114, 115, 116, 117, 118, 119]
theorem kpM9 {h h' : Hp} (f : Fx MR [14, 15] h h') : Keep h h' := Keep.ofFx f (by decide) (by decide)
theorem moved9L {N s : Nat → Nat} (v : Vn N) (hpw : planW (N 41)) (hs : ∀ c, s c ≤ 260) {h : Hp} (b : Po h 109 N) (e131 : ∀ c, c < 24 → h.1 131 c = nI (s c)) : ∃ o, lp (F := Nat → Int32 → Int32 → Hp → Option (Int32 × Hp)) (fun _ _ _ _ => none) f_X9_moved_15 1000 108 0 0 h = some o ∧ (Fx MR [14, 15] h o.2 ∧ ((mvOk N ∧ o.1 = nI (mvS N s 4 / 2)) ∨ (¬ mvOk N ∧ o.1 = -3))) := by
  have hw6 := v.w
  have mS : ∀ w, w ≤ 4 → mvS N s w ≤ 6960 := fun w hw => by
    unfold mvS
    have b0 := mv_le (N := N) (s := s) v hs (show 0 < 4 by decide)
    have b1 := mv_le (N := N) (s := s) v hs (show 1 < 4 by decide)
    have b2 := mv_le (N := N) (s := s) v hs (show 2 < 4 by decide)
    have b3 := mv_le (N := N) (s := s) v hs (show 3 < 4 by decide)
    rcases (show w = 0 ∨ w = 1 ∨ w = 2 ∨ w = 3 ∨ w = 4 by omega) with rfl | rfl | rfl | rfl | rfl
    · show 0 ≤ _; omega
    · show 0 + mvW N s 0 ≤ _; omega
    · show 0 + mvW N s 0 + mvW N s 1 ≤ _; omega
    · show 0 + mvW N s 0 + mvW N s 1 + mvW N s 2 ≤ _; omega
    · show 0 + mvW N s 0 + mvW N s 1 + mvW N s 2 + mvW N s 3 ≤ _; omega
  refine lp_invE (F := Nat → Int32 → Int32 → Hp → Option (Int32 × Hp)) (bot := fun _ _ _ _ => none) (G := f_X9_moved_15) (fun K i (h : Hp) => K 108 (nI (mvS N s i)) (nI i) h) 4 (fun w h' => Fx MR [14, 15] h h' ∧ ∀ t, t < w → N (24 + t) ≠ 0 → (wgv N t).isSome = true) _ ?_ ?_ 1000 0 h (by omega) (by omega) ⟨Fx.refl, fun t ht => absurd ht (Nat.not_lt_zero t)⟩
  · rintro K w h1 hw ⟨c1, c2⟩
    have hws := ws_le v hw
    have es : mvS N s (w + 1) = mvS N s w + mvW N s w := rfl
    obtain ⟨b1, e1, d1⟩ := nobody9 h1
    have f1 := mf_X9_nobodyClaims e1
    show (∃ s', _ ∧ f_X9_moved_15 K 108 (nI (mvS N s w)) (nI w) h1 = _) ∨ ∃ b, f_X9_moved_15 K 108 (nI (mvS N s w)) (nI w) h1 = some b ∧ _
    unfold f_X9_moved_15
    rw [if_neg (show ¬ (4 : Int32) ≤ nI w from nI_ge (b := 4) hw (by decide)), e1, Option.bind_some]
    have ent := lp_invK (F := Nat → Int32 → Int32 → Int32 → Hp → Option (Int32 × Hp)) (bot := fun _ _ _ _ _ => none) (G := f_X9_moved_27 K) (fun K i (h : Hp) => K 108 (nI (mvS N s w)) (nI w) (nI i) h) 6 (fun i h' => Fx MR [14, 15] h h' ∧ RfC h' (EW N w i).1 (EW N w i).2.1 (EW N w i).2.2) (fun h' => if nI (N (24 + w)) ≤ 0 then (f_X9_moved_90 K 108 (nI (mvS N s w)) (nI w) h') else ((f_X9_gives 108 (nI (N 41)) (nI (N (24 + w))) h').bind (fun q6 => if q6.1 = 0 then (some ((-3), q6.2)) else (f_X9_moved_90 K 108 (nI (mvS N s w)) (nI w) q6.2)))) ?_ ?_ 1000 0 b1.2 (by omega) (by omega) ⟨c1.trans (f1.mono (by decide) (by decide)), d1⟩
    · obtain ⟨h3, ⟨g1, g2⟩, g4⟩ := ent
      have b3 := g1.po b (by decide)
      have g4' : lp (F := Nat → Int32 → Int32 → Int32 → Hp → Option (Int32 × Hp)) (fun _ _ _ _ _ => none) (f_X9_moved_27 K) 1000 108 (nI (mvS N s w)) (nI w) 0 b1.2 = _ := g4
      rw [g4']
      by_cases z : N (24 + w) = 0
      · left
        have em : mvW N s w = 0 := by unfold mvW; rw [if_pos z]
        have e90 : f_X9_moved_90 K 108 (nI (mvS N s w)) (nI w) h3 = K 108 (nI (mvS N s w)) (nI (w + 1)) h3 := by
          unfold f_X9_moved_90
          show f_X9_moved_93 K _ 108 (nI (mvS N s w)) (nI w) 0 h3 = _
          unfold f_X9_moved_93 f_X9_moved_154
          rw [if_neg (by decide), seatsOf9 b3 hw, Option.bind_some]
          dsimp only [lt]
          rw [if_pos (by rw [z]; decide), nI_1]
        rw [if_pos (by rw [z]; decide), e90, es, em, Nat.add_zero]
        exact ⟨h3, ⟨g1, fun t ht hn => by
          by_cases et : t = w
          · rw [et] at hn
            exact absurd z hn
          · exact c2 t (by omega) hn⟩, rfl⟩
      · rw [if_neg (nI_nle (by omega) (by omega))]
        obtain ⟨o, e2, q⟩ := gives9 v hw6 (EW_z N w) (fun z6 => absurd z6 (not6 hpw)) (EW_W v hw) (EW_F N w) b3 g2 (show N (24 + w) ≤ 60 by omega)
        have f2 := mf_X9_gives e2
        rw [e2, Option.bind_some]
        have ft : Fx MR [14, 15] h o.2 := g1.trans (f2.mono (by decide) (by decide))
        rcases q with ⟨q1, q2, -⟩ | ⟨st, q1, q2, q3⟩
        · right
          rw [if_pos q2]
          refine ⟨_, rfl, ft, Or.inr ⟨fun ok => ?_, rfl⟩⟩
          have := ok w hw z
          unfold wgv at this
          rw [q1] at this
          cases this
        · left
          rw [if_neg (by rw [q2]; exact one_ne)]
          have b4 := ft.po b (by decide)
          have est : (wgv N w).getD gsD = st := by unfold wgv; rw [q1]; rfl
          have em : mvW N s w = sF (fun p => absd (s (6 * w + p)) (st.s p)) 6 := by unfold mvW; rw [if_neg z, est]
          have sst : ∀ p, p < 6 → st.s p ≤ 30 := fun p hp => by
            have := (gvN_ok (EW_z N w) q1).1
            have := sF_le (F := st.s) hp
            omega
          have sums := lp_seq (F := Nat → Int32 → Int32 → Int32 → Hp → Option (Int32 × Hp)) (bot := fun _ _ _ _ _ => none) (G := f_X9_moved_93 K) (fun K i (x : Nat) => K 108 (nI x) (nI w) (nI i) o.2) 6 (fun i => mvS N s w + sF (fun p => absd (s (6 * w + p)) (st.s p)) i) (K 108 (nI (mvS N s (w + 1))) (nI (w + 1)) o.2) ?_ ?_ 1000 0 (by omega) (by omega)
          · refine ⟨o.2, ⟨ft, fun t ht hn => ?_⟩, sums⟩
            by_cases et : t = w
            · rw [et]
              unfold wgv
              rw [q1]
              rfl
            · exact c2 t (by omega) hn
          · intro K2 p hp
            have h1' := hs (6 * w + p)
            have h2' := sst p hp
            obtain ⟨r1, r2, r3, r4⟩ := q3.1 p hp
            show f_X9_moved_93 K K2 108 (nI (mvS N s w + sF (fun p => absd (s (6 * w + p)) (st.s p)) p)) (nI w) (nI p) o.2 = K2 108 (nI (mvS N s w + (sF (fun p => absd (s (6 * w + p)) (st.s p)) p + absd (s (6 * w + p)) (st.s p)))) (nI w) (nI (p + 1)) o.2
            have e23 : o.2.1 (108 + 23) (6 * w + p) = nI (s (6 * w + p)) := by rw [ft.1 (108 + 23) (by decide) (by decide)]; exact e131 _ (by omega)
            unfold f_X9_moved_93 f_X9_moved_142
            rw [if_neg (ge6 hp), seatsOf9 b4 hw, Option.bind_some]
            dsimp only [lt]
            rw [if_neg (nI_nle (by omega) (by omega)), c6, if_pos (ix24 (by omega)), if_pos (ix6 hp), cl6' hp, nI_clamp (by omega), show o.2.1 (108 + 5) p = _ from r1, e23, if_pos (ix6 hp), show o.2.1 (108 + 8) p = _ from r4]
            by_cases hP : (EW N w 6).1 p = true
            · rw [if_neg (by rw [if_pos hP]; exact one_ne), absI (by omega) (by omega), nI_add, nI_1, Nat.add_assoc]
            · have z0 : st.s p = 0 := (gvN_ok (EW_z N w) q1).2.2 p hp (by simpa using hP)
              rw [if_pos (if_neg hP), show (0 : Int32) = nI (st.s p) by rw [z0]; rfl]
              rw [show (if nI (st.s p) ≤ nI (s (6 * w + p)) - nI (st.s p) then nI (s (6 * w + p)) - nI (st.s p) else nI (st.s p) - (nI (s (6 * w + p)) - nI (st.s p))) = nI (absd (s (6 * w + p)) (st.s p)) by
                have := absI (a := s (6 * w + p)) (b := st.s p) (by omega) (by omega)
                rw [z0] at this ⊢
                exact this, nI_add, nI_1, Nat.add_assoc]
          · intro K2
            show f_X9_moved_93 K K2 108 (nI (mvS N s w + sF (fun p => absd (s (6 * w + p)) (st.s p)) 6)) (nI w) (nI 6) o.2 = _
            unfold f_X9_moved_93 f_X9_moved_154
            rw [if_pos (show (6 : Int32) ≤ nI 6 by decide)]
            dsimp only [lt]
            rw [nI_1, es, em]
    · rintro K2 i h3 hi ⟨g1, g2⟩
      have b3 := g1.po b (by decide)
      show ∃ s', _ ∧ f_X9_moved_27 K K2 108 (nI (mvS N s w)) (nI w) (nI i) h3 = _
      unfold f_X9_moved_27 f_X9_moved_57
      rw [if_neg (ge6 hi), isIn9 v b3 hi, Option.bind_some]
      dsimp only [lt]
      by_cases hI : isInN N i = true
      · obtain ⟨h4, e4, k1⟩ := claims9 g2 (k := i) (u := N (6 * w + i)) (l := 0) hi
        rw [if_neg (by rw [if_pos hI]; exact one_ne), votesOf9 b3 hw hi, Option.bind_some]
        dsimp only
        rw [show f_X9_claims 108 (nI i) (nI (N (6 * w + i))) 0 h3 = _ from e4, Option.bind_some, nI_1]
        refine ⟨h4, ⟨g1.trans ((mf_X9_claims e4).mono (by decide) (by decide)), ?_⟩, rfl⟩
        unfold EW
        rw [ents_t hI]
        exact k1
      · rw [if_pos (if_neg hI), nI_1]
        refine ⟨h3, ⟨g1, ?_⟩, rfl⟩
        unfold EW
        rw [ents_f hI]
        exact g2
    · rintro K2 h3 ⟨g1, g2⟩
      have b3 := g1.po b (by decide)
      show f_X9_moved_27 K K2 108 (nI (mvS N s w)) (nI w) (nI 6) h3 = _
      unfold f_X9_moved_27
      rw [if_pos (show (6 : Int32) ≤ nI 6 by decide), seatsOf9 b3 hw, Option.bind_some]
      dsimp only
      rw [wayNow9 b3, Option.bind_some]
      dsimp only
      rw [seatsOf9 b3 hw, Option.bind_some]
  · rintro K h1 ⟨c1, c2⟩
    have hm := mS 4 (Nat.le_refl 4)
    show ∃ b, f_X9_moved_15 K 108 (nI (mvS N s 4)) (nI 4) h1 = some b ∧ _
    unfold f_X9_moved_15
    rw [if_pos (show (4 : Int32) ≤ nI 4 by decide), if_neg (by decide), show (2 : Int32) = nI 2 from rfl, pk_div (by omega) (by decide) (by decide)]
    exact ⟨_, rfl, c1, Or.inl ⟨c2, rfl⟩⟩
theorem op_moved : Op (Rel PKd) (fun h => f_X8_moved 0 h) (fun h => f_X9_moved 108 h) := by
  intro h ⟨N, hR⟩
  have v := hR.1
  obtain ⟨b, e, c, R1⟩ := settleR hR
  by_cases hz : 0 ≤ ocN N
  · have hc := oc_pos v hz
    obtain ⟨hpw, -, -, -⟩ := canP_w hc
    have sb := (sol_ok v).2.1
    obtain ⟨⟨x, b2⟩, e2, f2, q2⟩ := elsewhere8 v hpw sb R1.2.1 (c.2.2 hc).1 (c.2.2 hc).2.2.2.2
    dsimp only at f2 q2
    have R2 := R1.keep PKd_ok (kpM f2)
    obtain ⟨o, g, d, R3, -⟩ := solvesR R2
    obtain ⟨⟨x9, o2⟩, e4, f4, q4⟩ := moved9L v hpw sb R3.2.2.1 (d.2.2 hc)
    dsimp only at f4 q4
    have ex : x = x9 := by
      rcases q2 with ⟨k1, k2⟩ | ⟨k1, k2⟩ <;> rcases q4 with ⟨k3, k4⟩ | ⟨k3, k4⟩
      · rw [k2, k4]
      · exact absurd k1 k3
      · exact absurd k3 k1
      · rw [k2, k4]
    subst ex
    refine ⟨x, b2, o2, ?_, ?_, ⟨N, R3.keep PKd_ok (kpM9 f4)⟩⟩
    · dsimp only
      unfold f_X8_moved
      rw [show f_X2_settle (0 + 56) (0 + 1) h = _ from e, Option.bind_some, if_pos hz, show f_X2_elsewhere (0 + 56) (0 + 1) b = _ from e2, Option.bind_some]
    · dsimp only
      generalize hl : lp (F := Nat → Int32 → Int32 → Hp → Option (Int32 × Hp)) (fun _ _ _ _ => none) f_X9_moved_15 1000 = LL at e4
      unfold f_X9_moved
      rw [hl, g, Option.bind_some, if_pos hz]
      exact e4
  · obtain ⟨o, g, d, R2, -⟩ := solvesR R1
    refine ⟨ocN N, b, o, ?_, ?_, ⟨N, R2⟩⟩
    · dsimp only
      unfold f_X8_moved
      rw [show f_X2_settle (0 + 56) (0 + 1) h = _ from e, Option.bind_some, if_neg hz]
    · dsimp only
      unfold f_X9_moved
      rw [g, Option.bind_some, if_neg hz]
