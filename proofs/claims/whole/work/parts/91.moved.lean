def EW (N : Nat → Nat) (w n : Nat) : ES := ents (isInN N) (fun i => i) (fun i => N (6 * w + i)) (fun _ => 0) n
def wgv (N : Nat → Nat) (w : Nat) : Option GS := gvN N (N 41) (EW N w 6).1 (EW N w 6).2.1 (EW N w 6).2.2 (N (24 + w))
def mvW (N s : Nat → Nat) (w : Nat) : Nat := if N (24 + w) = 0 then 0 else sF (fun p => absd (s (6 * w + p)) (((wgv N w).getD gsD).s p)) 6
def mvOk (N : Nat → Nat) : Prop := ∀ w, w < 4 → N (24 + w) ≠ 0 → (wgv N w).isSome = true
theorem EW_z (N : Nat → Nat) (w : Nat) : ∀ k, k < 6 → (EW N w 6).1 k = false → (EW N w 6).2.1 k = 0 ∧ (EW N w 6).2.2 k = 0 := fun _ _ h => ents_0 6 h
theorem EW_W {N : Nat → Nat} (v : Vn N) {w : Nat} (hw : w < 4) : ∀ k, k < 6 → (EW N w 6).2.1 k ≤ 2400000 := fun k _ => by
  have := ents_W (S := isInN N) (T := fun i => i) (V := fun i => N (6 * w + i)) (L := fun _ => 0) (B := 100000) (k := k) (fun i hi => vote_le v (by omega)) 6 (Nat.le_refl 6)
  exact Nat.le_trans this (by decide)
theorem EW_F (N : Nat → Nat) (w : Nat) : sF (EW N w 6).2.2 6 ≤ 100 := by
  have := ents_F (S := isInN N) (T := fun i => i) (V := fun i => N (6 * w + i)) (L := fun _ => 0) (B := 0) (fun i hi => hi) (fun i hi => Nat.le_refl 0) 6 (Nat.le_refl 6)
  exact Nat.le_trans this (by decide)
theorem EW_iff {N : Nat → Nat} {w k : Nat} (hk : k < 6) : (EW N w 6).1 k = true ↔ isInN N k = true := by
  unfold EW
  rw [ents_P]
  constructor
  · rintro ⟨i, h1, h2, h3⟩
    rw [← h3]
    exact h2
  · intro h
    exact ⟨k, hk, h, rfl⟩
theorem not6 {N : Nat → Nat} (h : planW (N 41)) : ¬ N 41 = 6 := by
  unfold planW at h
  omega
theorem sF_b {f : Nat → Nat} {B : Nat} (h : ∀ k, k < 6 → f k ≤ B) : sF f 6 ≤ 6 * B := sF_bd h 6 (Nat.le_refl 6)
theorem mv_le {N s : Nat → Nat} (v : Vn N) (hs : ∀ c, s c ≤ 260) {w : Nat} (hw : w < 4) : mvW N s w ≤ 1740 := by
  unfold mvW
  by_cases z : N (24 + w) = 0
  · rw [if_pos z]
    omega
  · rw [if_neg z]
    refine sF_b (B := 290) (fun p hp => ?_)
    have h1 := hs (6 * w + p)
    have h2 : ((wgv N w).getD gsD).s p ≤ 30 := by
      cases e : wgv N w with
      | none => exact Nat.zero_le _
      | some st =>
        have q := (gvN_ok (EW_z N w) e).1
        have := sF_le (F := st.s) hp
        have := ws_le v hw
        show st.s p ≤ 30
        omega
    unfold absd
    omega
def mvS (N s : Nat → Nat) (w : Nat) : Nat := sF (mvW N s) w
theorem GvL87 : GvL 87 := ⟨rfl, rfl, rfl⟩
theorem kpM {h h' : Hp} (f : Fc 87 96 [] h h') : Keep h h' := Keep.ofFc f (by decide) (by decide)
theorem elsewhere8 {N s : Nat → Nat} (v : Vn N) (hpw : planW (N 41)) (hs : ∀ c, s c ≤ 260) {h : Hp} (a : Pc h 1 N) (h67 : h.1 67 2 = bits6 (isInN N)) (e57 : ∀ c, c < 24 → h.1 57 c = nI (s c)) : ∃ b, f_X2_elsewhere 56 1 h = some b ∧ (Fc 87 96 [] h b.2 ∧ ((mvOk N ∧ b.1 = nI (mvS N s 4 / 2)) ∨ (¬ mvOk N ∧ b.1 = -3))) := by
  have hw6 := v.w
  have mS : ∀ w, w ≤ 4 → mvS N s w ≤ 6960 := fun w hw => by
    unfold mvS
    have b0 := mv_le (N := N) (s := s) v hs (show 0 < 4 by decide)
    have b1 := mv_le (N := N) (s := s) v hs (show 1 < 4 by decide)
    have b2 := mv_le (N := N) (s := s) v hs (show 2 < 4 by decide)
    have b3 := mv_le (N := N) (s := s) v hs (show 3 < 4 by decide)
    rcases (show w = 0 ∨ w = 1 ∨ w = 2 ∨ w = 3 ∨ w = 4 by omega) with rfl | rfl | rfl | rfl | rfl
    · show 0 ≤ _; omega
    · show 0 + mvW N s 0 ≤ _; omega
    · show 0 + mvW N s 0 + mvW N s 1 ≤ _; omega
    · show 0 + mvW N s 0 + mvW N s 1 + mvW N s 2 ≤ _; omega
    · show 0 + mvW N s 0 + mvW N s 1 + mvW N s 2 + mvW N s 3 ≤ _; omega
  unfold f_X2_elsewhere
  refine lp_invE (F := Nat → Nat → Int32 → Int32 → Hp → Option (Int32 × Hp)) (bot := fun _ _ _ _ _ => none) (G := f_X2_elsewhere_4) (fun K i (h : Hp) => K 56 1 (nI (mvS N s i)) (nI i) h) 4 (fun w h' => Fc 87 96 [] h h' ∧ ∀ t, t < w → N (24 + t) ≠ 0 → (wgv N t).isSome = true) _ ?_ ?_ 1000 0 h (by omega) (by omega) ⟨Fc.refl, fun t ht => absurd ht (Nat.not_lt_zero t)⟩
  · rintro K w h1 hw ⟨c1, c2⟩
    have a1 : Pc h1 1 N := c1.pc a (fun j hj => ⟨by omega, by simp⟩)
    have hws := ws_le v hw
    have hmS := mS w (by omega)
    have es : mvS N s (w + 1) = mvS N s w + mvW N s w := rfl
    show (∃ s', _ ∧ f_X2_elsewhere_4 K 56 1 (nI (mvS N s w)) (nI w) h1 = _) ∨ ∃ b, f_X2_elsewhere_4 K 56 1 (nI (mvS N s w)) (nI w) h1 = some b ∧ _
    unfold f_X2_elsewhere_4
    rw [if_neg (show ¬ (4 : Int32) ≤ nI w from nI_ge (b := 4) hw (by decide)), if_pos (ix4 hw), nI_clamp (by omega), show h1.1 (1 + 2) w = _ from wseats8 a1 hw]
    by_cases z : N (24 + w) = 0
    · left
      have em : mvW N s w = 0 := by unfold mvW; rw [if_pos z]
      rw [if_pos (by rw [z]; rfl)]
      unfold f_X2_elsewhere_148
      dsimp only [lt]
      rw [nI_1, es, em, Nat.add_zero]
      exact ⟨h1, ⟨c1, fun t ht hn => by
        by_cases et : t = w
        · rw [et] at hn
          exact absurd z hn
        · exact c2 t (by omega) hn⟩, rfl⟩
    · rw [if_neg (nI_ne0 (by omega) (by omega))]
      obtain ⟨h2, e1, d1, d2⟩ := empty8 GvL87 h1
      have f1 : Fc 87 96 [] h1 h2 := mf_X0_empty e1
      rw [show f_X0_empty (56 + 31) h1 = _ from e1, Option.bind_some]
      dsimp only
      have ent := lp_invK (F := Nat → Nat → Int32 → Int32 → Int32 → Hp → Option (Int32 × Hp)) (bot := fun _ _ _ _ _ _ => none) (G := f_X2_elsewhere_31 K) (fun K i (h : Hp) => K 56 1 (nI (mvS N s w)) (nI w) (nI i) h) 6 (fun i h' => Fc 87 96 [] h h' ∧ ClE (EW N w i).1 (EW N w i).2.1 (EW N w i).2.2 h' 87 ∧ ∀ k, k < 6 → h'.1 (87 + 1) k = 0) (fun h' => (f_X0_give 87 1 (nI (N 41)) (nI (N (24 + w))) h').bind (fun q3 => if q3.1 = 0 then (some ((-3), q3.2)) else (lp (F := Nat → Nat → Int32 → Int32 → Int32 → Hp → Option (Int32 × Hp)) (fun _ _ _ _ _ _ => none) (f_X2_elsewhere_107 K) 1000 56 1 (nI (mvS N s w)) (nI w) 0 q3.2))) ?_ ?_ 1000 0 h2 (by omega) (by omega) ⟨c1.trans f1, d1, d2⟩
      · obtain ⟨h3, ⟨g1, g2, g3⟩, g4⟩ := ent
        have a3 : Pc h3 1 N := g1.pc a (fun j hj => ⟨by omega, by simp⟩)
        obtain ⟨b, e2, q⟩ := give8 v hw6 (EW_z N w) (fun z6 => absurd z6 (not6 hpw)) (EW_W v hw) (EW_F N w) (g := 87) (by decide) a3 g2 g3 (show N (24 + w) ≤ 60 by omega)
        have f2 : Fc 87 96 [] h3 b.2 := mf_X0_give e2
        have g4' : lp (F := Nat → Nat → Int32 → Int32 → Int32 → Hp → Option (Int32 × Hp)) (fun _ _ _ _ _ _ => none) (f_X2_elsewhere_31 K) 1000 56 1 (nI (mvS N s w)) (nI w) 0 h2 = _ := g4
        rw [g4', e2, Option.bind_some]
        have ft := g1.trans f2
        rcases q with ⟨q1, q2⟩ | ⟨st, q1, q2, q3⟩
        · right
          rw [if_pos q2]
          refine ⟨_, rfl, ft, Or.inr ⟨fun ok => ?_, rfl⟩⟩
          have := ok w hw z
          unfold wgv at this
          rw [q1] at this
          cases this
        · left
          rw [if_neg (by rw [q2]; exact one_ne)]
          have est : (wgv N w).getD gsD = st := by unfold wgv; rw [q1]; rfl
          have em : mvW N s w = sF (fun p => absd (s (6 * w + p)) (st.s p)) 6 := by unfold mvW; rw [if_neg z, est]
          have sst : ∀ p, p < 6 → st.s p ≤ 30 := fun p hp => by
            have := (gvN_ok (EW_z N w) q1).1
            have := sF_le (F := st.s) hp
            omega
          have sums := lp_seq (F := Nat → Nat → Int32 → Int32 → Int32 → Hp → Option (Int32 × Hp)) (bot := fun _ _ _ _ _ _ => none) (G := f_X2_elsewhere_107 K) (fun K i (x : Nat) => K 56 1 (nI x) (nI w) (nI i) b.2) 6 (fun i => mvS N s w + sF (fun p => absd (s (6 * w + p)) (st.s p)) i) (K 56 1 (nI (mvS N s (w + 1))) (nI (w + 1)) b.2) ?_ ?_ 1000 0 (by omega) (by omega)
          · refine ⟨b.2, ⟨ft, fun t ht hn => ?_⟩, sums⟩
            by_cases et : t = w
            · rw [et]
              unfold wgv
              rw [q1]
              rfl
            · exact c2 t (by omega) hn
          · intro K2 p hp
            have h1' := hs (6 * w + p)
            have h2' := sst p hp
            show f_X2_elsewhere_107 K K2 56 1 (nI (mvS N s w + sF (fun p => absd (s (6 * w + p)) (st.s p)) p)) (nI w) (nI p) b.2 = K2 56 1 (nI (mvS N s w + (sF (fun p => absd (s (6 * w + p)) (st.s p)) p + absd (s (6 * w + p)) (st.s p)))) (nI w) (nI (p + 1)) b.2
            unfold f_X2_elsewhere_107
            rw [if_neg (ge6 hp), cellw, Option.bind_some]
            dsimp only [lt]
            rw [if_pos (ix24 (by omega)), if_pos (ix6 hp), nI_clamp (by omega), cl6' hp, show b.2.1 (56 + 1) (6 * w + p) = nI (s (6 * w + p)) by rw [(ft (56 + 1) (by omega) (by simp)).1]; exact e57 _ (by omega), show b.2.1 (56 + 31 + 1) p = nI (st.s p) from q3.2.2.2.1 p hp, absI (by omega) (by omega), nI_add, nI_1, Nat.add_assoc]
          · intro K2
            show f_X2_elsewhere_107 K K2 56 1 (nI (mvS N s w + sF (fun p => absd (s (6 * w + p)) (st.s p)) 6)) (nI w) (nI 6) b.2 = _
            unfold f_X2_elsewhere_107 f_X2_elsewhere_148
            rw [if_pos (show (6 : Int32) ≤ nI 6 by decide)]
            dsimp only [lt]
            rw [nI_1, es, em]
      · rintro K2 i h3 hi ⟨g1, g2, g3⟩
        have a3 : Pc h3 1 N := g1.pc a (fun j hj => ⟨by omega, by simp⟩)
        have hb : h3.1 (56 + 11) 2 = bits6 (isInN N) := by rw [(g1 (56 + 11) (by omega) (by simp)).1]; exact h67
        show ∃ s', _ ∧ f_X2_elsewhere_31 K K2 56 1 (nI (mvS N s w)) (nI w) (nI i) h3 = _
        unfold f_X2_elsewhere_31 f_X2_elsewhere_74
        rw [if_neg (ge6 hi), hb, holds6 _ hi, Option.bind_some]
        dsimp only [lt]
        by_cases hI : isInN N i = true
        · have vl := vote_le v (show 6 * w + i < 24 by omega)
          obtain ⟨h4, e4, k1, k2⟩ := enter8 g2 (k := i) (u := N (6 * w + i)) (l := 0) hi (by omega)
          rw [if_neg (by rw [if_pos hI]; exact one_ne), cellw, Option.bind_some]
          dsimp only
          rw [if_pos (ix24 (by omega)), nI_clamp (by omega), show h3.1 (1 + 1) (6 * w + i) = _ from cast8 a3 (by omega), show f_X0_enter (56 + 31) (nI i) (nI (N (6 * w + i))) 0 h3 = _ from e4, Option.bind_some, nI_1]
          refine ⟨h4, ⟨g1.trans (mf_X0_enter e4), ?_, fun k hk => by rw [k2]; exact g3 k hk⟩, rfl⟩
          unfold EW
          rw [ents_t hI]
          exact k1
        · rw [if_pos (if_neg hI), nI_1]
          refine ⟨h3, ⟨g1, ?_, g3⟩, rfl⟩
          unfold EW
          rw [ents_f hI]
          exact g2
      · rintro K2 h3 ⟨g1, g2, g3⟩
        have a3 : Pc h3 1 N := g1.pc a (fun j hj => ⟨by omega, by simp⟩)
        have ew : h3.1 1 5 = nI (N 41) := a3 41 (by decide)
        show f_X2_elsewhere_31 K K2 56 1 (nI (mvS N s w)) (nI w) (nI 6) h3 = _
        unfold f_X2_elsewhere_31
        rw [if_pos (show (6 : Int32) ≤ nI 6 by decide), if_pos (ix4 hw), nI_clamp (by omega), ew, show h3.1 (1 + 2) w = _ from wseats8 a3 hw]
  · rintro K h1 ⟨c1, c2⟩
    have hm := mS 4 (Nat.le_refl 4)
    show ∃ b, f_X2_elsewhere_4 K 56 1 (nI (mvS N s 4)) (nI 4) h1 = some b ∧ _
    unfold f_X2_elsewhere_4
    rw [if_pos (show (4 : Int32) ≤ nI 4 by decide), if_neg (by decide), show (2 : Int32) = nI 2 from rfl, pk_div (by omega) (by decide) (by decide)]
    exact ⟨_, rfl, c1, Or.inl ⟨c2, rfl⟩⟩
