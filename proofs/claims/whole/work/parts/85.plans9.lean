theorem bgi_z {N D : Nat → Nat} {w : Nat} (hw : w < 4) (h0 : N (24 + w) = 0) : ∀ p, p ≤ 6 → (bgi N D w p).2.2 = 0 ∧ (∀ c, (bgi N D w p).1 c = (bgn N D w).1 c) ∧ ∀ q, (bgi N D w p).2.1 q = (bgn N D w).2 q := by
  intro p
  induction p with
  | zero => exact fun _ => ⟨h0, fun _ => rfl, fun _ => rfl⟩
  | succ p ih =>
    intro hp
    obtain ⟨a1, a2, a3⟩ := ih (by omega)
    have hu := (bgn_inv (N := N) (D := D) w (by omega)).2 (6 * w + p) (by omega)
    rw [bgi_s]
    generalize bgi N D w p = t at a1 a2 a3
    unfold ist
    rw [a1, Nat.zero_min]
    refine ⟨rfl, fun c => ?_, fun q => ?_⟩
    · show up t.1 (6 * w + p) 0 c = _
      by_cases e : c = 6 * w + p
      · rw [e, up_self, hu]
      · rw [up_ne _ _ e]
        exact a2 c
    · show up t.2.1 p (t.2.1 p - 0) q = _
      rw [Nat.sub_zero, up_id]
      exact a3 q
theorem begins9 {N D : Nat → Nat} (v : Vn N) (hD : ∀ p, p < 6 → D p ≤ 60) {Qw Qp : Nat → Bool} (hW : ∀ w, w < 4 → Qw w = false → N (24 + w) = 0) (hP : ∀ p, p < 6 → Qp p = false → D p = 0) {h : Hp} (l : Ls Qw Qp h) (b : Po h 109 N) (e130 : ∀ p, p < 6 → h.1 130 p = nI (D p)) : ∃ o, f_X9_begins 108 h = some o ∧ ∀ c, c < 24 → o.2.1 131 c = nI (s0N N D c) := by
  have q4 := cQ_le Qw 4
  have q6 := cQ_le Qp 6
  -- wards, one behind another
  have L3 : ∀ h1 : Hp, (∀ r, r ≠ 126 → r ≠ 131 → h1.1 r = h.1 r) → (∀ c, c < 24 → h1.1 131 c = 0) → (∀ p, p < 6 → h1.1 126 p = nI (D p)) → ∃ o, lp (F := Nat → Int32 → Hp → Option (Unit × Hp)) (fun _ _ _ => none) f_X9_begins_49 1000 108 0 h1 = some o ∧ ∀ c, c < 24 → o.2.1 131 c = nI (s0N N D c) := fun h1 f1 z1 d1 => by
    have loop := lp_skipE (F := Nat → Int32 → Hp → Option (Unit × Hp)) (bot := fun _ _ _ => none) (G := f_X9_begins_49) (fun K i (h : Hp) => K 108 (nI i) h) 4 Qw (fun w h' => (∀ r, r ≠ 126 → r ≠ 131 → h'.1 r = h.1 r) ∧ (∀ c, c < 24 → h'.1 131 c = nI ((bgn N D w).1 c)) ∧ ∀ p, p < 6 → h'.1 126 p = nI ((bgn N D w).2 p)) (fun o => ∀ c, c < 24 → o.2.1 131 c = nI (s0N N D c)) ?_ ?_ ?_ 4 1000 0 h1 rfl (by omega) ⟨f1, fun c hc => z1 c hc, d1⟩
    · exact loop
    · rintro w h' hw hq ⟨c1, c2, c3⟩
      obtain ⟨z1, z2, z3⟩ := bgi_z (N := N) (D := D) hw (hW w hw hq) 6 (Nat.le_refl 6)
      refine ⟨c1, fun c hc => ?_, fun p hp => ?_⟩
      · rw [bgn_s, z2 c]
        exact c2 c hc
      · show _ = nI ((bgi N D w 6).2.1 p)
        rw [z3 p]
        exact c3 p hp
    · rintro K w h' hw hQ ⟨c1, c2, c3⟩
      left
      have hcl := cQ_lt hw hQ
      have e31 : h'.1 108 31 = nI (cQ Qw 4) := by rw [c1 108 (by decide) (by decide)]; exact l.1
      have e20 : h'.1 (108 + 20) (cQ Qw w) = nI w := by rw [c1 (108 + 20) (by decide) (by decide)]; exact l.2.2.1 w hw hQ
      have b' : Po h' 109 N := b.keep (c1 109 (by decide) (by decide))
      show ∃ s', _ ∧ f_X9_begins_49 K 108 (nI (cQ Qw w)) h' = _
      unfold f_X9_begins_49
      rw [e31, if_neg (nI_ge hcl (by omega)), if_pos (ix4 (by omega)), nI_clamp (by omega), e20, seatsOf9 b' hw, Option.bind_some]
      dsimp only
      have inner := lp_skipK (F := Nat → Int32 → Int32 → Int32 → Hp → Option (Unit × Hp)) (bot := fun _ _ _ _ _ => none) (G := f_X9_begins_70 K) (fun K i (x : Int32 × Hp) => K 108 (nI (cQ Qw w)) x.1 (nI i) x.2) 6 Qp (fun p x => (∀ r, r ≠ 126 → r ≠ 131 → x.2.1 r = h.1 r) ∧ x.1 = nI (bgi N D w p).2.2 ∧ (∀ c, c < 24 → x.2.1 131 c = nI ((bgi N D w p).1 c)) ∧ ∀ q, q < 6 → x.2.1 126 q = nI ((bgi N D w p).2.1 q)) (fun x => K 108 (nI (cQ Qw w + 1)) x.2) ?_ ?_ ?_ 6 1000 0 (nI (N (24 + w)), h') rfl (by omega) ⟨c1, rfl, c2, c3⟩
      · obtain ⟨⟨x, h2⟩, ⟨i1, i2, i3, i4⟩, i5⟩ := inner
        exact ⟨h2, ⟨i1, fun c hc => by rw [bgn_s]; exact i3 c hc, fun p hp => by rw [bgn_s]; exact i4 p hp⟩, i5⟩
      · rintro p ⟨x, h2⟩ hp hq ⟨i1, i2, i3, i4⟩
        obtain ⟨b1, b2, b3, b4⟩ := bgi_all (N := N) (D := D) (w := w) (p := p) hw (by omega)
        have z0 : (bgi N D w p).2.1 p = 0 := by
          have := b1 p hp
          have := hP p hp hq
          omega
        have z1 := b2 (6 * w + p) (Nat.le_refl _)
        dsimp only at i1 i2 i3 i4 ⊢
        rw [bgi_s]
        generalize bgi N D w p = t at i2 i3 i4 z0 z1
        unfold ist
        rw [z0, Nat.min_zero]
        refine ⟨i1, i2, fun c hc => ?_, fun q hq => ?_⟩
        · show _ = nI (up t.1 (6 * w + p) 0 c)
          by_cases e : c = 6 * w + p
          · rw [e, up_self, i3 _ (by omega), z1]
          · rw [up_ne _ _ e]
            exact i3 c hc
        · show _ = nI (up t.2.1 p (0 - 0) q)
          by_cases e : q = p
          · rw [e, up_self, i4 p hp, z0]
          · rw [up_ne _ _ e]
            exact i4 q hq
      · rintro K2 p ⟨x, h2⟩ hp hQp ⟨i1, i2, i3, i4⟩
        dsimp only at i1 i2 i3 i4
        subst i2
        obtain ⟨b1, b2, b3, b4⟩ := bgi_all (N := N) (D := D) (w := w) (p := p) hw (by omega)
        have bp := b1 p hp
        have hDp := hD p hp
        have hws := ws_le v hw
        have hcp := cQ_lt hp hQp
        have e32 : h2.1 108 32 = nI (cQ Qp 6) := by rw [i1 108 (by decide) (by decide)]; exact l.2.1
        have e21 : h2.1 (108 + 21) (cQ Qp p) = nI p := by rw [i1 (108 + 21) (by decide) (by decide)]; exact l.2.2.2 p hp hQp
        have e20' : h2.1 (108 + 20) (cQ Qw w) = nI w := by rw [i1 (108 + 20) (by decide) (by decide)]; exact l.2.2.1 w hw hQ
        rw [bgi_s]
        generalize bgi N D w p = t at i3 i4 bp b4
        have hm1 : min t.2.2 (t.2.1 p) ≤ t.2.2 := Nat.min_le_left _ _
        have hm2 : min t.2.2 (t.2.1 p) ≤ t.2.1 p := Nat.min_le_right _ _
        have e18 : h2.1 (108 + 18) p = nI (t.2.1 p) := i4 p hp
        refine ⟨(nI (t.2.2 - min t.2.2 (t.2.1 p)), sI (sI h2 131 (6 * w + p) (nI (min t.2.2 (t.2.1 p)))) 126 p (nI (t.2.1 p - min t.2.2 (t.2.1 p)))), ⟨fun r h3 h4 => by rw [sI_row _ _ _ h3, sI_row _ _ _ h4]; exact i1 r h3 h4, rfl, fun c hc => ?_, fun q hq => ?_⟩, ?_⟩
        · show (sI (sI h2 131 (6 * w + p) (nI (min t.2.2 (t.2.1 p)))) 126 p (nI (t.2.1 p - min t.2.2 (t.2.1 p)))).1 131 c = nI (up t.1 (6 * w + p) (min t.2.2 (t.2.1 p)) c)
          rw [sI_row _ _ _ (by decide), sI1, if_pos rfl]
          by_cases e : c = 6 * w + p
          · rw [if_pos e, e, up_self]
          · rw [if_neg e, up_ne _ _ e]
            exact i3 c hc
        · show (sI (sI h2 131 (6 * w + p) (nI (min t.2.2 (t.2.1 p)))) 126 p (nI (t.2.1 p - min t.2.2 (t.2.1 p)))).1 126 q = nI (up t.2.1 p (t.2.1 p - min t.2.2 (t.2.1 p)) q)
          rw [sI1, if_pos rfl]
          by_cases e : q = p
          · rw [if_pos e, e, up_self]
          · rw [if_neg e, up_ne _ _ e, sI_row _ _ _ (by decide)]
            exact i4 q hq
        · show f_X9_begins_70 K K2 108 (nI (cQ Qw w)) (nI t.2.2) (nI (cQ Qp p)) h2 = _
          unfold f_X9_begins_70
          rw [e32, if_neg (nI_ge hcp (by omega)), if_pos (ix6 (by omega)), cl6' (show cQ Qp p < 6 by omega), e21, if_pos (ix6 hp), cl6' hp, e18, min31 (by omega) (by omega)]
          dsimp only [lt]
          rw [if_pos (ix4 (by omega)), if_pos (ix6 (by omega)), nI_clamp (show cQ Qw w < 2 ^ 31 by omega), e20', c6, if_pos (ix24 (by omega)), nI_clamp (show 6 * w + p < 2 ^ 31 by omega)]
          have m21 : (sI h2 (108 + 23) (6 * w + p) (nI (min t.2.2 (t.2.1 p)))).1 (108 + 21) (cQ Qp p) = nI p := by rw [sI_row _ _ _ (by decide)]; exact e21
          have m18 : (sI h2 (108 + 23) (6 * w + p) (nI (min t.2.2 (t.2.1 p)))).1 (108 + 18) p = nI (t.2.1 p) := by rw [sI_row _ _ _ (by decide)]; exact e18
          rw [if_pos (ix6 (by omega)), m21, if_pos (ix6 hp), if_pos (ix6 hp), cl6' hp, m18, pk_sub hm2, pk_sub hm1, nI_1]
      · rintro K2 ⟨x, h2⟩ ⟨i1, i2, i3, i4⟩
        have e32 : h2.1 108 32 = nI (cQ Qp 6) := by rw [i1 108 (by decide) (by decide)]; exact l.2.1
        show f_X9_begins_70 K K2 108 (nI (cQ Qw w)) x (nI (cQ Qp 6)) h2 = _
        unfold f_X9_begins_70
        rw [e32, if_pos (nI_le (Nat.le_refl _) (by omega))]
        dsimp only [lt]
        rw [nI_1]
    · rintro K h' ⟨c1, c2, c3⟩
      have e31 : h'.1 108 31 = nI (cQ Qw 4) := by rw [c1 108 (by decide) (by decide)]; exact l.1
      show ∃ o, f_X9_begins_49 K 108 (nI (cQ Qw 4)) h' = some o ∧ _
      unfold f_X9_begins_49
      rw [e31, if_pos (nI_le (Nat.le_refl _) (by omega))]
      exact ⟨_, rfl, c2⟩
  unfold f_X9_begins
  refine lp_inv (F := Nat → Int32 → Hp → Option (Unit × Hp)) (bot := fun _ _ _ => none) (G := f_X9_begins_2) (fun K i (h : Hp) => K 108 (nI i) h) 24 (fun i h' => (∀ r, r ≠ 131 → h'.1 r = h.1 r) ∧ ∀ c, c < i → h'.1 131 c = 0) _ ?_ ?_ 1000 0 h (by omega) (by omega) ⟨fun _ _ => rfl, fun c hc => absurd hc (Nat.not_lt_zero c)⟩
  · rintro K i h1 hi ⟨c1, c2⟩
    refine ⟨sI h1 131 i 0, ⟨fun r hr => by rw [sI_row _ _ _ hr]; exact c1 r hr, fun c hc => ?_⟩, ?_⟩
    · rw [sI1, if_pos rfl]
      by_cases e : c = i
      · rw [if_pos e]
      · rw [if_neg e]
        exact c2 c (by omega)
    · show f_X9_begins_2 K 108 (nI i) h1 = _
      unfold f_X9_begins_2
      rw [if_neg (show ¬ (24 : Int32) ≤ nI i from nI_ge (b := 24) hi (by decide)), if_pos (ix24 hi), nI_clamp (by omega)]
      dsimp only [lt]
      rw [nI_1]
  · rintro K h1 ⟨c1, c2⟩
    show ∃ o, f_X9_begins_2 K 108 (nI 24) h1 = some o ∧ _
    unfold f_X9_begins_2
    rw [if_pos (show (24 : Int32) ≤ nI 24 by decide)]
    have L2 := lp_inv (F := Nat → Int32 → Hp → Option (Unit × Hp)) (bot := fun _ _ _ => none) (G := f_X9_begins_23) (fun K i (h : Hp) => K 108 (nI i) h) 6 (fun i h' => (∀ r, r ≠ 126 → r ≠ 131 → h'.1 r = h.1 r) ∧ (∀ c, c < 24 → h'.1 131 c = 0) ∧ ∀ p, p < i → h'.1 126 p = nI (D p)) (fun o => ∀ c, c < 24 → o.2.1 131 c = nI (s0N N D c)) ?_ ?_ 1000 0 h1 (by omega) (by omega) ⟨fun r _ h4 => c1 r h4, c2, fun p hp => absurd hp (Nat.not_lt_zero p)⟩
    · exact L2
    · rintro K2 i h2 hi ⟨d1, d2, d3⟩
      refine ⟨sI h2 126 i (nI (D i)), ⟨fun r h3 h4 => by rw [sI_row _ _ _ h3]; exact d1 r h3 h4, fun c hc => by rw [sI_row _ _ _ (by decide)]; exact d2 c hc, fun p hp => ?_⟩, ?_⟩
      · rw [sI1, if_pos rfl]
        by_cases e : p = i
        · rw [if_pos e, e]
        · rw [if_neg e]
          exact d3 p (by omega)
      · show f_X9_begins_23 K2 108 (nI i) h2 = _
        unfold f_X9_begins_23
        rw [if_neg (ge6 hi), if_pos (ix6 hi), if_pos (ix6 hi), cl6' hi, show h2.1 (108 + 22) i = nI (D i) by rw [d1 (108 + 22) (by decide) (by decide)]; exact e130 i hi]
        dsimp only [lt]
        rw [nI_1]
    · rintro K2 h2 ⟨d1, d2, d3⟩
      show ∃ o, f_X9_begins_23 K2 108 (nI 6) h2 = some o ∧ _
      unfold f_X9_begins_23
      rw [if_pos (show (6 : Int32) ≤ nI 6 by decide)]
      exact L3 h2 d1 d2 d3
def canP (N : Nat → Nat) : Bool := (decide (N 41 = 0) || decide (N 41 = 1) || decide (N 41 = 2) || decide (N 41 = 5)) && (decide (1 ≤ seatsA N) && (decide (seatsA N ≤ 60) && okHb N (N 41) (seatsA N)))
theorem canP_w {N : Nat → Nat} (h : canP N = true) : planW (N 41) ∧ 1 ≤ seatsA N ∧ seatsA N ≤ 60 ∧ okHb N (N 41) (seatsA N) = true := by
  unfold canP at h
  simp only [Bool.and_eq_true, Bool.or_eq_true, decide_eq_true_eq] at h
  refine ⟨?_, h.2.1, h.2.2.1, h.2.2.2⟩
  unfold planW
  omega
theorem seatsA_le {N : Nat → Nat} (v : Vn N) : seatsA N ≤ 120 := by
  have a : N 24 ≤ 30 := ws_le v (show 0 < 4 by decide)
  have b : N 25 ≤ 30 := ws_le v (show 1 < 4 by decide)
  have c : N 26 ≤ 30 := ws_le v (show 2 < 4 by decide)
  have d : N 27 ≤ 30 := ws_le v (show 3 < 4 by decide)
  unfold seatsA
  omega
