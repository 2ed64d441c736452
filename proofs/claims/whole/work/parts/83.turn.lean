theorem frst_inv {α : Type} {f : Nat → Option α} {x : α} : ∀ {m i : Nat}, frst f m i = some x → ∃ t, i ≤ t ∧ t < i + m ∧ f t = some x := by
  intro m
  induction m with
  | zero => intro i h; cases h
  | succ m ih =>
    intro i h
    have h : (match f i with
      | some x => some x
      | none => frst f m (i + 1)) = some x := h
    cases e : f i with
    | none =>
      rw [e] at h
      obtain ⟨t, t1, t2, t3⟩ := ih h
      exact ⟨t, by omega, by omega, t3⟩
    | some y =>
      rw [e] at h
      cases h
      exact ⟨i, Nat.le_refl i, by omega, e⟩
/-- parties of a ring -/
def GdP (s : Nat → Nat) (Qp : Nat → Bool) (k : Nat) (rw' rp : Nat → Nat) (j : Nat) : Prop := (∀ i, i < j → rp i < 6 ∧ Qp (rp i) = true ∧ 1 ≤ s (lC k rw' rp i)) ∧ ∀ i t, i < j → t < j → i ≠ t → rp i ≠ rp t
def GdW (Qw : Nat → Bool) (rw' : Nat → Nat) (j : Nat) : Prop := (∀ i, i < j → rw' i < 4 ∧ Qw (rw' i) = true) ∧ ∀ i t, i < j → t < j → i ≠ t → rw' i ≠ rw' t
theorem sP_gd {N s : Nat → Nat} {Qp : Nat → Bool} {k : Nat} {rw' : Nat → Nat} : ∀ r rp rp', r ≤ k → GdP s Qp k rw' rp (k - r) → sP N s Qp k rw' r rp = some (some rp') → GdP s Qp k rw' rp' k := by
  intro r
  induction r with
  | zero =>
    intro rp rp' hr g h
    unfold sP at h
    cases hw : wgh N s k rw' rp with
    | none => rw [hw] at h; cases h
    | some x =>
      rw [hw] at h
      cases x with
      | true =>
        cases h
        exact g
      | false => cases h
  | succ r ih =>
    intro rp rp' hr g h
    have hj1 : k - (r + 1) + 1 = k - r := by omega
    unfold sP at h
    obtain ⟨p, p1, p2, p3⟩ := frst_inv h
    generalize k - (r + 1) = j at g p3 hj1
    by_cases q : (Qp p && notin rp j p && decide (0 < s (6 * rw' ((k - r) % k) + p))) = true
    · rw [if_pos q] at p3
      rw [Bool.and_eq_true, Bool.and_eq_true, decide_eq_true_eq] at q
      have hn := (notin_iff j).mp q.1.2
      refine ih (up rp j p) rp' (by omega) ⟨fun i hi => ?_, fun i t hi ht hit => ?_⟩ p3
      · by_cases ei : i = j
        · unfold lC
          rw [ei, up_self, hj1]
          exact ⟨by omega, q.1.1, q.2⟩
        · have := g.1 i (by omega)
          unfold lC at this ⊢
          rw [up_ne _ _ ei]
          exact this
      · by_cases ei : i = j
        · rw [ei, up_self, up_ne _ _ (by omega)]
          exact fun z => hn t (by omega) z.symm
        · rw [up_ne _ _ ei]
          by_cases et : t = j
          · rw [et, up_self]
            exact hn i (by omega)
          · rw [up_ne _ _ et]
            exact g.2 i t (by omega) (by omega) hit
    · rw [if_neg q] at p3
      cases p3
theorem sW_gd {N s : Nat → Nat} {Qw Qp : Nat → Bool} {k : Nat} : ∀ r rw' x, r ≤ k → GdW Qw rw' (k - r) → sW N s Qw Qp k r rw' = some (some x) → GdW Qw x.1 k ∧ GdP s Qp k x.1 x.2 k := by
  intro r
  induction r with
  | zero =>
    intro rw' x hr g h
    unfold sW at h
    cases ho : sP N s Qp k rw' k (fun _ => 0) with
    | none => rw [ho] at h; cases h
    | some y =>
      rw [ho] at h
      cases y with
      | none => cases h
      | some y =>
        cases h
        exact ⟨g, sP_gd k (fun _ => 0) y (Nat.le_refl k) (by rw [Nat.sub_self]; exact ⟨fun i hi => absurd hi (Nat.not_lt_zero i), fun i t hi => absurd hi (Nat.not_lt_zero i)⟩) ho⟩
  | succ r ih =>
    intro rw' x hr g h
    have hj1 : k - (r + 1) + 1 = k - r := by omega
    unfold sW at h
    obtain ⟨p, p1, p2, p3⟩ := frst_inv h
    generalize k - (r + 1) = j at g p3 hj1
    by_cases q : (Qw p && notin rw' j p) = true
    · rw [if_pos q] at p3
      rw [Bool.and_eq_true] at q
      have hn := (notin_iff j).mp q.2
      refine ih (up rw' j p) x (by omega) ⟨fun i hi => ?_, fun i t hi ht hit => ?_⟩ p3
      · by_cases ei : i = j
        · rw [ei, up_self]
          exact ⟨by omega, q.1⟩
        · rw [up_ne _ _ ei]
          exact g.1 i (by omega)
      · by_cases ei : i = j
        · rw [ei, up_self, up_ne _ _ (by omega)]
          exact fun z => hn t (by omega) z.symm
        · rw [up_ne _ _ ei]
          by_cases et : t = j
          · rw [et, up_self]
            exact hn i (by omega)
          · rw [up_ne _ _ et]
            exact g.2 i t (by omega) (by omega) hit
    · rw [if_neg q] at p3
      cases p3
theorem fB_gd {N s : Nat → Nat} {Qw Qp : Nat → Bool} {k : Nat} {x : (Nat → Nat) × (Nat → Nat)} (h : fB N s Qw Qp = some (k, some x)) : 2 ≤ k ∧ k ≤ 4 ∧ GdW Qw x.1 k ∧ GdP s Qp k x.1 x.2 k := by
  unfold fB at h
  obtain ⟨i, i1, i2, i3⟩ := frst_inv h
  unfold fBi at i3
  cases ho : sW N s Qw Qp (i + 2) (i + 2) (fun _ => 0) with
  | none => rw [ho] at i3; cases i3
  | some y =>
    rw [ho] at i3
    cases i3
    have g := sW_gd (i + 2) (fun _ => 0) x (Nat.le_refl _) (by rw [Nat.sub_self]; exact ⟨fun i hi => absurd hi (Nat.not_lt_zero i), fun i t hi => absurd hi (Nat.not_lt_zero i)⟩) ho
    exact ⟨by omega, by omega, g.1, g.2⟩
/-- a step of a ring done -/
def tst (k : Nat) (rw' rp : Nat → Nat) (i : Nat) (s : Nat → Nat) : Nat → Nat := up (up s (gC rw' rp i) (s (gC rw' rp i) + 1)) (lC k rw' rp i) (s (lC k rw' rp i) - 1)
def trn (k : Nat) (rw' rp : Nat → Nat) (s : Nat → Nat) : Nat → Nat := fu (tst k rw' rp) k s
/-- where there is a cell -/
def Zr (Qw Qp : Nat → Bool) (s : Nat → Nat) : Prop := ∀ w p, w < 4 → p < 6 → (Qw w = false ∨ Qp p = false) → s (6 * w + p) = 0
theorem gl_ne {Qw : Nat → Bool} {k : Nat} {rw' rp : Nat → Nat} (hk : 2 ≤ k) (w : GdW Qw rw' k) {i : Nat} (hi : i < k) : gC rw' rp i ≠ lC k rw' rp i := by
  unfold gC lC
  have h1 : (i + 1) % k ≠ i := by
    by_cases e : i + 1 = k
    · rw [e, Nat.mod_self]
      omega
    · rw [Nat.mod_eq_of_lt (by omega)]
      omega
  have := w.2 i ((i + 1) % k) hi (Nat.mod_lt _ (by omega)) (fun z => h1 z.symm)
  omega
theorem col_ne {s : Nat → Nat} {Qp : Nat → Bool} {k : Nat} {rw' rp : Nat → Nat} (g : GdP s Qp k rw' rp k) {i t : Nat} (hi : i < k) (ht : t < k) (hit : i ≠ t) : gC rw' rp i ≠ gC rw' rp t ∧ gC rw' rp i ≠ lC k rw' rp t ∧ lC k rw' rp i ≠ gC rw' rp t ∧ lC k rw' rp i ≠ lC k rw' rp t := by
  have h1 := (g.1 i hi).1
  have h2 := (g.1 t ht).1
  have h3 := g.2 i t hi ht hit
  unfold gC lC
  refine ⟨?_, ?_, ?_, ?_⟩ <;> omega
theorem trn_ok {Qw Qp : Nat → Bool} {s : Nat → Nat} {k : Nat} {rw' rp : Nat → Nat} (hk : 2 ≤ k) (w : GdW Qw rw' k) (g : GdP s Qp k rw' rp k) (z : Zr Qw Qp s) : ∀ i, i ≤ k → (∀ t, i ≤ t → t < k → fu (tst k rw' rp) i s (gC rw' rp t) = s (gC rw' rp t) ∧ fu (tst k rw' rp) i s (lC k rw' rp t) = s (lC k rw' rp t)) ∧ (∀ c, fu (tst k rw' rp) i s c ≤ s c + 1) ∧ Zr Qw Qp (fu (tst k rw' rp) i s) := by
  intro i
  induction i with
  | zero => exact fun _ => ⟨fun _ _ _ => ⟨rfl, rfl⟩, fun c => Nat.le_succ _, z⟩
  | succ i ih =>
    intro hi
    obtain ⟨a1, a2, a3⟩ := ih (by omega)
    obtain ⟨b1, b2⟩ := a1 i (Nat.le_refl i) (by omega)
    have hgl := gl_ne (rp := rp) hk w (show i < k by omega)
    show (∀ t, i + 1 ≤ t → t < k → tst k rw' rp i (fu (tst k rw' rp) i s) (gC rw' rp t) = s (gC rw' rp t) ∧ tst k rw' rp i (fu (tst k rw' rp) i s) (lC k rw' rp t) = s (lC k rw' rp t)) ∧ (∀ c, tst k rw' rp i (fu (tst k rw' rp) i s) c ≤ s c + 1) ∧ Zr Qw Qp (tst k rw' rp i (fu (tst k rw' rp) i s))
    generalize fu (tst k rw' rp) i s = u at a1 a2 a3 b1 b2
    unfold tst
    refine ⟨fun t h1 h2 => ?_, fun c => ?_, fun x p hx hp hq => ?_⟩
    · obtain ⟨n1, n2, n3, n4⟩ := col_ne g h2 (show i < k by omega) (by omega)
      rw [up_ne _ _ n2, up_ne _ _ n1, up_ne _ _ n4, up_ne _ _ n3]
      exact a1 t (by omega) h2
    · by_cases e1 : c = lC k rw' rp i
      · rw [e1, up_self, b2]
        omega
      · rw [up_ne _ _ e1]
        by_cases e2 : c = gC rw' rp i
        · rw [e2, up_self, b1]
          omega
        · rw [up_ne _ _ e2]
          exact a2 c
    · have hw1 := (w.1 i (by omega))
      have hw2 := (w.1 _ (Nat.mod_lt (i + 1) (show 0 < k by omega)))
      have hg := g.1 i (by omega)
      have e1 : 6 * x + p ≠ lC k rw' rp i := fun e => by
        unfold lC at e
        have q1 : x = rw' ((i + 1) % k) := by omega
        have q2 : p = rp i := by omega
        rcases hq with q | q
        · rw [q1, hw2.2] at q
          cases q
        · rw [q2, hg.2.1] at q
          cases q
      have e2 : 6 * x + p ≠ gC rw' rp i := fun e => by
        unfold gC at e
        have q1 : x = rw' i := by omega
        have q2 : p = rp i := by omega
        rcases hq with q | q
        · rw [q1, hw1.2] at q
          cases q
        · rw [q2, hg.2.1] at q
          cases q
      rw [up_ne _ _ e1, up_ne _ _ e2]
      exact a3 x p hx hp hq
theorem turn8 {Qw Qp : Nat → Bool} {s : Nat → Nat} {k : Nat} {rw' rp : Nat → Nat} (hk : 2 ≤ k) (hk4 : k ≤ 4) (w : GdW Qw rw' k) (g : GdP s Qp k rw' rp k) (z : Zr Qw Qp s) {h : Hp} (r : Rk k rw' rp k h) (es : ∀ c, c < 24 → h.1 57 c = nI (s c)) : ∃ b, f_X4_turn 58 57 h = some b ∧ ((∀ a, a ≠ 57 → b.2.1 a = h.1 a) ∧ ∀ c, c < 24 → b.2.1 57 c = nI (trn k rw' rp s c)) := by
  unfold f_X4_turn
  refine lp_inv (F := Nat → Nat → Int32 → Hp → Option (Unit × Hp)) (bot := fun _ _ _ _ => none) (G := f_X4_turn_2) (fun K i (h : Hp) => K 58 57 (nI i) h) k (fun i h' => (∀ a, a ≠ 57 → h'.1 a = h.1 a) ∧ ∀ c, c < 24 → h'.1 57 c = nI (fu (tst k rw' rp) i s c)) _ ?_ ?_ 1000 0 h (by omega) (by omega) ⟨fun _ _ => rfl, es⟩
  · rintro K i h1 hi ⟨c1, c2⟩
    obtain ⟨r1, r2, r3⟩ := r
    obtain ⟨r31, r32, r33⟩ := r3 i hi
    obtain ⟨t1, t2, t3⟩ := trn_ok hk w g z i (by omega)
    obtain ⟨b1, b2⟩ := t1 i (Nat.le_refl i) hi
    have hg := g.1 i hi
    have hw1 := (w.1 i hi).1
    have hw2 := (w.1 _ (Nat.mod_lt (i + 1) (show 0 < k by omega))).1
    have g24 : gC rw' rp i < 24 := by unfold gC; omega
    have l24 : lC k rw' rp i < 24 := by unfold lC; omega
    have hgl := gl_ne (rp := rp) hk w hi
    refine ⟨sI (sI h1 57 (gC rw' rp i) (nI (s (gC rw' rp i) + 1))) 57 (lC k rw' rp i) (nI (s (lC k rw' rp i) - 1)), ⟨fun a ha => by rw [sI_row _ _ _ ha, sI_row _ _ _ ha]; exact c1 a ha, fun c hc => ?_⟩, ?_⟩
    · show _ = nI (up (up (fu (tst k rw' rp) i s) (gC rw' rp i) (fu (tst k rw' rp) i s (gC rw' rp i) + 1)) (lC k rw' rp i) (fu (tst k rw' rp) i s (lC k rw' rp i) - 1) c)
      rw [b1, b2, sI1, if_pos rfl, sI1, if_pos rfl]
      by_cases e1 : c = lC k rw' rp i
      · rw [if_pos e1, e1, up_self]
      · rw [if_neg e1, up_ne _ _ e1]
        by_cases e2 : c = gC rw' rp i
        · rw [if_pos e2, e2, up_self]
        · rw [if_neg e2, up_ne _ _ e2]
          exact c2 c hc
    · show f_X4_turn_2 K 58 57 (nI i) h1 = _
      unfold f_X4_turn_2
      have d2 : h1.1 58 2 = nI k := by rw [c1 58 (by decide)]; exact r1
      have d3 : h1.1 (58 + 3) i = nI (gC rw' rp i) := by rw [c1 (58 + 3) (by decide)]; exact r32
      have d4 : ∀ x, (sI h1 57 (gC rw' rp i) x).1 (58 + 4) i = nI (lC k rw' rp i) := fun x => by rw [sI_row _ _ _ (by decide), c1 (58 + 4) (by decide)]; exact r33
      rw [d2, if_neg (nI_ge hi (by omega)), if_neg (show ¬ (4 : Int32) ≤ nI i from nI_ge (b := 4) (by omega) (by decide)), if_pos (ix4 (by omega)), nI_clamp (show i < 2 ^ 31 by omega), d3, show ln 57 = 24 from rfl, if_pos (ix24 g24), if_pos (ix24 g24), nI_clamp (show gC rw' rp i < 2 ^ 31 by omega), c2 _ g24, b1, nI_1]
      dsimp only [lt]
      rw [if_pos (ix4 (by omega)), d4, if_pos (ix24 l24), if_pos (ix24 l24), nI_clamp (show lC k rw' rp i < 2 ^ 31 by omega), sI1, if_pos rfl, if_neg (Ne.symm hgl), c2 _ l24, b2, nI_m1 hg.2.2, nI_1]
  · rintro K h1 ⟨c1, c2⟩
    show ∃ b, f_X4_turn_2 K 58 57 (nI k) h1 = some b ∧ _
    unfold f_X4_turn_2
    rw [show h1.1 58 2 = nI k by rw [c1 58 (by decide)]; exact r.1, if_pos (nI_le (Nat.le_refl k) (by omega))]
    exact ⟨_, rfl, c1, c2⟩
theorem turn9 {Qw Qp : Nat → Bool} {s : Nat → Nat} {k : Nat} {rw' rp : Nat → Nat} (hk : 2 ≤ k) (hk4 : k ≤ 4) (w : GdW Qw rw' k) (g : GdP s Qp k rw' rp k) (z : Zr Qw Qp s) {h : Hp} (r : Qk k rw' rp k h) (es : ∀ c, c < 24 → h.1 131 c = nI (s c)) (K16 : Nat → Int32 → Hp → Option (Int32 × Hp)) (d : Nat) : ∃ h', ((∀ a, a ≠ 131 → h'.1 a = h.1 a) ∧ ∀ c, c < 24 → h'.1 131 c = nI (trn k rw' rp s c)) ∧ lp (F := Nat → Int32 → Int32 → Hp → Option (Int32 × Hp)) (fun _ _ _ _ => none) (f_X9_solvesAnew_46 K16) 1000 108 (nI d) 0 h = K16 108 (nI (d + 1)) h' := by
  refine lp_invK (F := Nat → Int32 → Int32 → Hp → Option (Int32 × Hp)) (bot := fun _ _ _ _ => none) (G := f_X9_solvesAnew_46 K16) (fun K i (h : Hp) => K 108 (nI d) (nI i) h) k (fun i h' => (∀ a, a ≠ 131 → h'.1 a = h.1 a) ∧ ∀ c, c < 24 → h'.1 131 c = nI (fu (tst k rw' rp) i s c)) (fun h' => K16 108 (nI (d + 1)) h') ?_ ?_ 1000 0 h (by omega) (by omega) ⟨fun _ _ => rfl, es⟩
  · rintro K i h1 hi ⟨c1, c2⟩
    obtain ⟨t1, t2, t3⟩ := trn_ok hk w g z i (by omega)
    obtain ⟨b1, b2⟩ := t1 i (Nat.le_refl i) hi
    have hg := g.1 i hi
    have hw1 := (w.1 i hi).1
    have hw2 := (w.1 _ (Nat.mod_lt (i + 1) (show 0 < k by omega))).1
    have g24 : gC rw' rp i < 24 := by unfold gC; omega
    have l24 : lC k rw' rp i < 24 := by unfold lC; omega
    have hgl := gl_ne (rp := rp) hk w hi
    have qk : ∀ h2 : Hp, (∀ a, a ≠ 131 → h2.1 a = h.1 a) → Qk k rw' rp k h2 := fun h2 e => by
      unfold Qk
      rw [e 108 (by decide), e 132 (by decide), e 133 (by decide)]
      exact r
    have c1' : ∀ x, ∀ a, a ≠ 131 → (sI h1 131 (lC k rw' rp i) x).1 a = h.1 a := fun x a ha => by rw [sI_row _ _ _ ha]; exact c1 a ha
    refine ⟨sI (sI h1 131 (lC k rw' rp i) (nI (s (lC k rw' rp i) - 1))) 131 (gC rw' rp i) (nI (s (gC rw' rp i) + 1)), ⟨fun a ha => by rw [sI_row _ _ _ ha, sI_row _ _ _ ha]; exact c1 a ha, fun c hc => ?_⟩, ?_⟩
    · show _ = nI (up (up (fu (tst k rw' rp) i s) (gC rw' rp i) (fu (tst k rw' rp) i s (gC rw' rp i) + 1)) (lC k rw' rp i) (fu (tst k rw' rp) i s (lC k rw' rp i) - 1) c)
      rw [b1, b2, sI1, if_pos rfl, sI1, if_pos rfl]
      by_cases e1 : c = lC k rw' rp i
      · rw [if_neg (by rw [e1]; exact Ne.symm hgl), if_pos e1, e1, up_self]
      · rw [if_neg e1, up_ne _ _ e1]
        by_cases e2 : c = gC rw' rp i
        · rw [if_pos e2, e2, up_self]
        · rw [if_neg e2, up_ne _ _ e2]
          exact c2 c hc
    · show f_X9_solvesAnew_46 K16 K 108 (nI d) (nI i) h1 = _
      unfold f_X9_solvesAnew_46
      rw [(qk h1 c1).1, if_neg (nI_ge hi (by omega)), givesUp9 (qk h1 c1) (by omega) hk4 hi hi, Option.bind_some]
      dsimp only [lt]
      rw [if_pos (ix24 l24), if_pos (ix24 l24), nI_clamp (show lC k rw' rp i < 2 ^ 31 by omega), show h1.1 (108 + 23) (lC k rw' rp i) = _ from c2 _ l24, b2, nI_m1 hg.2.2]
      have qk2 := qk _ (c1' (nI (s (lC k rw' rp i) - 1)))
      rw [show sI h1 (108 + 23) (lC k rw' rp i) (nI (s (lC k rw' rp i) - 1)) = sI h1 131 (lC k rw' rp i) (nI (s (lC k rw' rp i) - 1)) from rfl, gains9 qk2 hk4 hi hi, Option.bind_some]
      dsimp only
      rw [if_pos (ix24 g24), if_pos (ix24 g24), nI_clamp (show gC rw' rp i < 2 ^ 31 by omega), show (sI h1 131 (lC k rw' rp i) (nI (s (lC k rw' rp i) - 1))).1 (108 + 23) (gC rw' rp i) = nI (s (gC rw' rp i)) by rw [show 108 + 23 = 131 from rfl, sI1, if_pos rfl, if_neg hgl, c2 _ g24, b1], nI_1, nI_1]
  · rintro K h1 ⟨c1, c2⟩
    show f_X9_solvesAnew_46 K16 K 108 (nI d) (nI k) h1 = _
    unfold f_X9_solvesAnew_46
    rw [show h1.1 108 35 = nI k by rw [c1 108 (by decide)]; exact r.1, if_pos (nI_le (Nat.le_refl k) (by omega))]
    dsimp only [lt]
    rw [nI_1]
