/-- what picking wards leaves -/
def Wfr (j : Nat) (h h' : Hp) : Prop := (∀ a, a ≠ 59 → a ≠ 60 → a ≠ 61 → a ≠ 62 → h'.1 a = h.1 a) ∧ h'.2 = h.2 ∧ ∀ i, i < j → h'.1 59 i = h.1 59 i
theorem Wfr.refl {j : Nat} {h : Hp} : Wfr j h h := ⟨fun _ _ _ _ _ => rfl, rfl, fun _ _ => rfl⟩
theorem Wfr.trans {j : Nat} {h h1 h2 : Hp} (a : Wfr j h h1) (b : Wfr j h1 h2) : Wfr j h h2 := ⟨fun x p q r t => (b.1 x p q r t).trans (a.1 x p q r t), b.2.1.trans a.2.1, fun i hi => (b.2.2 i hi).trans (a.2.2 i hi)⟩
theorem Wfr.mono {j j' : Nat} {h h1 : Hp} (a : Wfr j h h1) (hj : j' ≤ j) : Wfr j' h h1 := ⟨a.1, a.2.1, fun i hi => a.2.2 i (by omega)⟩
theorem Pfr.w {i j : Nat} {h h' : Hp} (a : Pfr i h h') : Wfr j h h' := ⟨fun x _ p q r => a.1 x p q r, a.2.1, fun i _ => by rw [a.1 59 (by decide) (by decide) (by decide)]⟩
theorem Rg.w {N s : Nat → Nat} {h h' : Hp} {j : Nat} (g : Rg N s h) (f : Wfr j h h') : Rg N s h' := by
  unfold Rg
  rw [f.2.1, f.1 63 (by decide) (by decide) (by decide) (by decide), f.1 64 (by decide) (by decide) (by decide) (by decide)]
  exact g
def rw8 (k : Nat) (o : Option (Option ((Nat → Nat) × (Nat → Nat)))) (b : Int32 × Hp) : Prop := match o with
  | none => b.1 = 0
  | some none => b.1 = -6
  | some (some x) => b.1 = 1 ∧ Rk k x.1 x.2 k b.2
theorem pickW8 {N s : Nat → Nat} (v : Vn N) {Qw Qp : Nat → Bool} {k : Nat} (hk0 : 0 < k) (hk : k ≤ 4) (bs : ∀ c, c < 24 → s c ≤ 260) : ∀ r n rw' h, r < n → r ≤ k → Rg N s h → h.1 58 2 = nI k → h.1 58 1 = bits6 Qp → (∀ i, i < k - r → h.1 59 i = nI (rw' i) ∧ rw' i < 4) → ∃ b, f_X4_pickWard n 58 (nI (k - r)) (bits4 (fun w => Qw w && notin rw' (k - r) w)) h = some b ∧ Wfr (k - r) h b.2 ∧ rw8 k (sW N s Qw Qp k r rw') b := by
  intro r
  induction r with
  | zero =>
    intro n rw' h hn hr g h2 h1 hw
    obtain ⟨n, rfl⟩ : ∃ m, n = m + 1 := ⟨n - 1, by omega⟩
    rw [Nat.sub_zero] at hw ⊢
    show ∃ b, f_X4_pickWard_0 (f_X4_pickWard n) 58 (nI k) _ h = some b ∧ _
    unfold f_X4_pickWard_0 f_X4_pickWard_13
    rw [h2, if_pos (nI_le (Nat.le_refl k) (by omega)), h1]
    obtain ⟨b, e1, f1, q1⟩ := pickP8 (Qp := Qp) v hk0 hk (rw' := rw') bs k 8 (fun _ => 0) h (by omega) (Nat.le_refl k) g (by rw [Nat.sub_self]; exact ⟨h2, fun i hi => (hw i hi).1, fun i hi => absurd hi (Nat.not_lt_zero i)⟩) (by rw [Nat.sub_self]; exact ⟨fun i hi => (hw i hi).2, fun i hi => absurd hi (Nat.not_lt_zero i), fun i hi => absurd hi (Nat.not_lt_zero i)⟩)
    rw [Nat.sub_self] at e1
    have e2 : f_X4_pickParty 8 58 0 (bits6 Qp) h = some b := by
      rw [bits6_congr (P := Qp) (Q := fun p => Qp p && notin (fun _ => 0) 0 p) (fun x _ => by show _ = (Qp x && true); rw [Bool.and_true])]
      exact e1
    rw [e2]
    refine ⟨b, rfl, f1.w, ?_⟩
    unfold rw8 sW
    cases ho : sP N s Qp k rw' k (fun _ => 0) with
    | none =>
      rw [ho] at q1
      exact q1
    | some x =>
      rw [ho] at q1
      cases x with
      | none => exact q1
      | some y => exact q1
  | succ r ih =>
    intro n rw' h hn hr g h2 h1 hw
    obtain ⟨n, rfl⟩ : ∃ m, n = m + 1 := ⟨n - 1, by omega⟩
    have hj : k - (r + 1) < k := by omega
    have hj1 : k - (r + 1) + 1 = k - r := by omega
    have eS : ∀ j, k - (r + 1) = j → sW N s Qw Qp k (r + 1) rw' = frst (fun w => if (Qw w && notin rw' j w) = true then sW N s Qw Qp k r (up rw' j w) else none) 4 0 := fun j e => by
      rw [← e]
      rfl
    generalize hjj : k - (r + 1) = j at hw hj hj1
    rw [eS j hjj]
    show ∃ b, f_X4_pickWard_0 (f_X4_pickWard n) 58 (nI j) _ h = some b ∧ _
    unfold f_X4_pickWard_0
    rw [h2, if_neg (nI_ge hj (by omega)), if_pos (show nI j < 4 from nI_lt (b := 4) (by omega) (by decide))]
    refine lp_invE (F := Nat → Int32 → Int32 → Int32 → Hp → Option (Int32 × Hp)) (bot := fun _ _ _ _ _ => none) (G := f_X4_pickWard_25 (f_X4_pickWard n)) (fun K i (h : Hp) => K 58 (nI j) (bits4 (fun w => Qw w && notin rw' j w)) (nI i) h) 4 (fun i h' => Wfr j h h' ∧ frst (fun w => if (Qw w && notin rw' j w) = true then sW N s Qw Qp k r (up rw' j w) else none) 4 0 = frst (fun w => if (Qw w && notin rw' j w) = true then sW N s Qw Qp k r (up rw' j w) else none) (4 - i) i) _ ?_ ?_ 1000 0 h (by omega) (by omega) ⟨Wfr.refl, rfl⟩
    · rintro K w h3 hp ⟨c1, c2⟩
      show (∃ s', _ ∧ f_X4_pickWard_25 (f_X4_pickWard n) K 58 (nI j) (bits4 (fun w => Qw w && notin rw' j w)) (nI w) h3 = _) ∨ ∃ b, f_X4_pickWard_25 (f_X4_pickWard n) K 58 (nI j) (bits4 (fun w => Qw w && notin rw' j w)) (nI w) h3 = some b ∧ _
      unfold f_X4_pickWard_25 f_X4_pickWard_72
      rw [if_neg (show ¬ (4 : Int32) ≤ nI w from nI_ge (b := 4) hp (by decide)), holds4 _ hp]
      simp only [Option.bind_some]
      by_cases hq : (Qw w && notin rw' j w) = true
      · rw [if_pos hq, if_neg one_ne]
        simp only [ix4 (show j < 4 by omega), if_true, nI_clamp (show j < 2 ^ 31 by omega), lt, nI_1]
        rw [bits4_dn (Q := fun x => Qw x && notin (up rw' j w) (j + 1) x) hp (fun x hx => by rw [notin_up, Bool.and_assoc]), hj1]
        have c3 : Wfr j h3 (sI h3 (58 + 1) j (nI w)) := ⟨fun a h5 h6 h7 h8 => by rw [sI_row _ _ _ h5], rfl, fun i hi => by rw [sI1, if_pos rfl, if_neg (by omega)]⟩
        obtain ⟨b, e1, f1, q1⟩ := ih n (up rw' j w) (sI h3 (58 + 1) j (nI w)) (by omega) (by omega) ((g.w c1).w c3) (by rw [sI_row _ _ _ (by decide), c1.1 58 (by decide) (by decide) (by decide) (by decide)]; exact h2) (by rw [sI_row _ _ _ (by decide), c1.1 58 (by decide) (by decide) (by decide) (by decide)]; exact h1) (fun i hi => by
          rw [sI1, if_pos rfl]
          by_cases ei : i = j
          · rw [if_pos ei, ei, up_self]
            exact ⟨rfl, hp⟩
          · rw [if_neg ei, up_ne _ _ ei, c1.2.2 i (by omega)]
            exact hw i (by omega))
        rw [e1]
        simp only [Option.bind_some]
        have ft : Wfr j h b.2 := c1.trans (c3.trans (f1.mono (by omega)))
        cases ho : sW N s Qw Qp k r (up rw' j w) with
        | none =>
          left
          rw [ho] at q1
          rw [if_pos (show b.1 = 0 from q1)]
          exact ⟨b.2, ⟨ft, frst_n hp c2 (by rw [if_pos hq]; exact ho)⟩, rfl⟩
        | some x =>
          right
          rw [ho] at q1
          have nz : ¬ b.1 = 0 := by
            cases x with
            | none =>
              have : b.1 = -6 := q1
              rw [this]
              decide
            | some y =>
              have : b.1 = 1 := q1.1
              rw [this]
              decide
          rw [if_neg nz]
          exact ⟨b, rfl, ft, by rw [frst_s hp c2 (by rw [if_pos hq]; exact ho)]; exact q1⟩
      · left
        rw [if_neg hq, if_pos rfl]
        simp only [lt, nI_1]
        exact ⟨h3, ⟨c1, frst_n hp c2 (if_neg hq)⟩, rfl⟩
    · rintro K h3 ⟨c1, c2⟩
      show ∃ b, f_X4_pickWard_25 (f_X4_pickWard n) K 58 (nI j) _ (nI 4) h3 = some b ∧ _
      unfold f_X4_pickWard_25
      rw [if_pos (show (4 : Int32) ≤ nI 4 by decide)]
      refine ⟨_, rfl, c1, ?_⟩
      rw [frst_e c2]
      rfl
def bcE (x0 : Int32) : Int32 := let v1 := x0 - (((Int32.toUInt32 x0 >>> (Int32.toUInt32 1 &&& Int32.toUInt32 31)).toInt32) &&& 1431655765)
  let v2 := (v1 &&& 858993459) + (((Int32.toUInt32 v1 >>> (Int32.toUInt32 2 &&& Int32.toUInt32 31)).toInt32) &&& 858993459)
  let v3 := (v2 + ((Int32.toUInt32 v2 >>> (Int32.toUInt32 4 &&& Int32.toUInt32 31)).toInt32)) &&& 252645135
  let v4 := v3 + ((Int32.toUInt32 v3 >>> (Int32.toUInt32 8 &&& Int32.toUInt32 31)).toInt32)
  let v5 := v4 + ((Int32.toUInt32 v4 >>> (Int32.toUInt32 16 &&& Int32.toUInt32 31)).toInt32)
  v5 &&& 63
theorem bcE_eq (x : Int32) (h : Hp) : f_J6_bitCount_0f7a4 x h = some (bcE x, h) := rfl
def b2n (b : Bool) : Nat := if b = true then 1 else 0
theorem bc6 : ∀ b0 b1 b2 b3 b4 b5 : Bool, bcE (B6 b0 b1 b2 b3 b4 b5) = nI (0 + b2n b0 + b2n b1 + b2n b2 + b2n b3 + b2n b4 + b2n b5) := by decide +kernel
theorem bc4 : ∀ b0 b1 b2 b3 : Bool, bcE (B4 b0 b1 b2 b3) = nI (0 + b2n b0 + b2n b1 + b2n b2 + b2n b3) := by decide +kernel
theorem bit6 (Q : Nat → Bool) (h : Hp) : f_J6_bitCount_0f7a4 (bits6 Q) h = some (nI (cQ Q 6), h) := by
  rw [bcE_eq, bits6_eq, bc6]
  rfl
theorem bit4 (Q : Nat → Bool) (h : Hp) : f_J6_bitCount_0f7a4 (bits4 Q) h = some (nI (cQ Q 4), h) := by
  rw [bcE_eq, bits4_eq, bc4]
  rfl
theorem mark0 {p : Nat} (x y : Int32) (h : Hp) : ∃ z, f_X3_markAbove p x y h = some (z, h) := by
  unfold f_X3_markAbove
  repeat' split
  all_goals exact ⟨_, rfl⟩
def rb8 (o : Option (Nat × Option ((Nat → Nat) × (Nat → Nat)))) (b : Int32 × Hp) : Prop := match o with
  | none => b.1 = 0
  | some (_, none) => b.1 = -6
  | some (k, some x) => b.1 = 1 ∧ Rk k x.1 x.2 k b.2
theorem first8L {N s : Nat → Nat} (v : Vn N) {Qw Qp : Nat → Bool} (bs : ∀ c, c < 24 → s c ≤ 260) {h' : Hp} (g : Rg N s h') (e0 : h'.1 58 0 = bits4 Qw) (e1 : h'.1 58 1 = bits6 Qp) {mm : Nat} (hmm6 : mm ≤ 4) : ∃ b, lp (F := Nat → Int32 → Int32 → Hp → Option (Int32 × Hp)) (fun _ _ _ _ => none) f_X4_firstBetter_112 1000 58 (nI mm) (nI 2) h' = some b ∧ ((b.2.1 58 0 = bits4 Qw ∧ b.2.1 58 1 = bits6 Qp) ∧ rb8 (frst (fBi N s Qw Qp) (min 4 mm - 1) 0) b) := by
  refine lp_invE (F := Nat → Int32 → Int32 → Hp → Option (Int32 × Hp)) (bot := fun _ _ _ _ => none) (G := f_X4_firstBetter_112) (fun K i (h : Hp) => K 58 (nI mm) (nI (i + 2)) h) (min 4 mm - 1) (fun i h2 => (∃ z, Wfr 0 (sI h' 58 2 z) h2) ∧ frst (fBi N s Qw Qp) (min 4 mm - 1) 0 = frst (fBi N s Qw Qp) (min 4 mm - 1 - i) i) _ ?_ ?_ 1000 0 h' (by omega) (by omega) ⟨⟨h'.1 58 2, by rw [sI_same]; exact Wfr.refl⟩, rfl⟩
  · rintro K i h2 hi ⟨⟨z, d1⟩, d2⟩
    have e02 : h2.1 58 0 = bits4 Qw := by rw [d1.1 58 (by decide) (by decide) (by decide) (by decide), sI1, if_pos rfl, if_neg (by decide)]; exact e0
    have e12 : h2.1 58 1 = bits6 Qp := by rw [d1.1 58 (by decide) (by decide) (by decide) (by decide), sI1, if_pos rfl, if_neg (by decide)]; exact e1
    have g2 : Rg N s (sI h2 58 2 (nI (i + 2))) := by
      have gz : Rg N s (sI h' 58 2 z) := by
        unfold Rg
        rw [sI_row _ _ _ (by decide), sI_row _ _ _ (by decide)]
        exact g
      have := gz.w d1
      unfold Rg at this ⊢
      rw [sI_row _ _ _ (by decide), sI_row _ _ _ (by decide)]
      exact this
    obtain ⟨b, p1, p2, p3⟩ := pickW8 (Qw := Qw) (Qp := Qp) v (show 0 < i + 2 by omega) (show i + 2 ≤ 4 by omega) bs (i + 2) 8 (fun _ => 0) (sI h2 58 2 (nI (i + 2))) (by omega) (Nat.le_refl _) g2 (by rw [sI1, if_pos rfl, if_pos rfl]) (by rw [sI1, if_pos rfl, if_neg (by decide)]; exact e12) (fun j hj => by omega)
    rw [Nat.sub_self] at p1 p2
    have p1b : f_X4_pickWard 8 58 0 (bits4 Qw) (sI h2 58 2 (nI (i + 2))) = some b := by
      rw [bits4_congr (P := Qw) (Q := fun p => Qw p && notin (fun _ => 0) 0 p) (fun x _ => by show _ = (Qw x && true); rw [Bool.and_true])]
      exact p1
    have s0 : (sI h2 58 2 (nI (i + 2))).1 58 0 = bits4 Qw := by rw [sI1, if_pos rfl, if_neg (by decide)]; exact e02
    have kb : b.2.1 58 0 = bits4 Qw ∧ b.2.1 58 1 = bits6 Qp := by
      rw [p2.1 58 (by decide) (by decide) (by decide) (by decide)]
      refine ⟨s0, ?_⟩
      rw [sI1, if_pos rfl, if_neg (by decide)]
      exact e12
    have wf : Wfr 0 (sI h' 58 2 (nI (i + 2))) b.2 := ⟨fun r r1 r2 r3 r4 => by
        rw [p2.1 r r1 r2 r3 r4]
        by_cases e58 : r = 58
        · subst e58
          funext t
          rw [sI1, if_pos rfl, sI1, if_pos rfl]
          by_cases et : t = 2
          · rw [if_pos et, if_pos et]
          · rw [if_neg et, if_neg et, d1.1 58 r1 r2 r3 r4, sI1, if_pos rfl, if_neg et]
        · rw [sI_row _ _ _ e58, sI_row _ _ _ e58, d1.1 r r1 r2 r3 r4, sI_row _ _ _ e58], by rw [p2.2.1]; show h2.2 = h'.2; rw [d1.2.1]; rfl, fun i hi => absurd hi (Nat.not_lt_zero i)⟩
    show (∃ s', _ ∧ f_X4_firstBetter_112 K 58 (nI mm) (nI (i + 2)) h2 = _) ∨ ∃ b, f_X4_firstBetter_112 K 58 (nI mm) (nI (i + 2)) h2 = some b ∧ _
    unfold f_X4_firstBetter_112
    rw [if_neg (show ¬ (4 : Int32) < nI (i + 2) from nI_nlt (a := 4) (by omega) (by decide)), if_neg (nI_nlt (by omega) (by omega))]
    simp only [lt]
    rw [s0, p1b]
    simp only [Option.bind_some, nI_1]
    cases ho : sW N s Qw Qp (i + 2) (i + 2) (fun _ => 0) with
    | none =>
      left
      rw [ho] at p3
      rw [if_pos (show b.1 = 0 from p3)]
      exact ⟨b.2, ⟨⟨_, wf⟩, frst_n hi d2 (fBi_n ho)⟩, rfl⟩
    | some y =>
      right
      rw [ho] at p3
      have nz : ¬ b.1 = 0 := by
        cases y with
        | none =>
          have : b.1 = -6 := p3
          rw [this]
          decide
        | some y =>
          have : b.1 = 1 := p3.1
          rw [this]
          decide
      rw [if_neg nz]
      refine ⟨b, rfl, kb, ?_⟩
      rw [frst_s hi d2 (fBi_s ho)]
      cases y with
      | none => exact p3
      | some y => exact p3
  · rintro K h2 ⟨⟨z, d1⟩, d2⟩
    show ∃ b, f_X4_firstBetter_112 K 58 (nI mm) (nI (min 4 mm - 1 + 2)) h2 = some b ∧ _
    have kb : h2.1 58 0 = bits4 Qw ∧ h2.1 58 1 = bits6 Qp := by
      rw [d1.1 58 (by decide) (by decide) (by decide) (by decide), sI1, if_pos rfl, if_neg (by decide), sI1, if_pos rfl, if_neg (by decide)]
      exact ⟨e0, e1⟩
    unfold f_X4_firstBetter_112
    by_cases q : 4 < min 4 mm - 1 + 2
    · rw [if_pos (show (4 : Int32) < nI (min 4 mm - 1 + 2) from nI_lt (a := 4) q (by omega))]
      refine ⟨_, rfl, kb, ?_⟩
      rw [frst_e d2]
      rfl
    · rw [if_neg (show ¬ (4 : Int32) < nI (min 4 mm - 1 + 2) from nI_nlt (a := 4) (by omega) (by decide)), if_pos (nI_lt (by omega) (by omega))]
      refine ⟨_, rfl, kb, ?_⟩
      rw [frst_e d2]
      rfl
theorem first8M {N s : Nat → Nat} (v : Vn N) {Qw Qp : Nat → Bool} (bs : ∀ c, c < 24 → s c ≤ 260) {m2 m5 : Hp} (a2 : Pc m2 1 N) (r63 : ∀ c, c < 24 → m2.1 63 c = nI (s c)) (r64 : ∀ c, c < 24 → m2.1 64 c = nI (N c)) (h0 : m2.1 58 0 = bits4 Qw) (h1 : m2.1 58 1 = bits6 Qp) (em : m5.1 = m2.1) (eb : m5.2 58 11 = lN (blw N (N 41) 1)) : ∃ b, lp (F := Nat → Nat → Int32 → Hp → Option (Int32 × Hp)) (fun _ _ _ _ => none) f_X4_firstBetter_37 1000 58 1 (nI 0) m5 = some b ∧ ((b.2.1 58 0 = bits4 Qw ∧ b.2.1 58 1 = bits6 Qp) ∧ rb8 (frst (fBi N s Qw Qp) (min 4 (min (cQ Qw 4) (cQ Qp 6)) - 1) 0) b) := by
  have hw := v.w
  refine lp_inv (F := Nat → Nat → Int32 → Hp → Option (Int32 × Hp)) (bot := fun _ _ _ _ => none) (G := f_X4_firstBetter_37) (fun K i (h : Hp) => K 58 1 (nI i) h) 24 (fun i h' => h'.1 = m2.1 ∧ h'.2 58 11 = lN (blw N (N 41) 1) ∧ ∀ c, c < i → h'.2 65 c = lN (mrk N (N 41) (s c + 1)) ∧ (1 ≤ s c → h'.2 66 c = lN (mrk N (N 41) (s c)))) _ ?_ ?_ 1000 0 m5 (by omega) (by omega) ⟨em, eb, fun c hc => absurd hc (Nat.not_lt_zero c)⟩
  · rintro K i h' hi ⟨c1, c2, c3⟩
    have bsi := bs i hi
    have a3 : Pc h' 1 N := a2.keep (fun j hj => by rw [c1])
    have ew3 : h'.1 1 5 = nI (N 41) := a3 41 (by decide)
    have e63 : h'.1 (58 + 5) i = nI (s i) := by rw [c1]; exact r63 i hi
    show ∃ s', _ ∧ f_X4_firstBetter_37 K 58 1 (nI i) h' = _
    unfold f_X4_firstBetter_37
    rw [if_neg (show ¬ (24 : Int32) ≤ nI i from nI_ge (b := 24) hi (by decide)), if_pos (ix24 hi), nI_clamp (by omega), e63, nI_1, ew3, mark8 a3 v hw (by omega) (by omega)]
    simp only [Option.bind_some, ix24 hi, if_true, lt, nI_1, sL1, ew3, e63]
    have a4 : Pc (sL h' (58 + 7) i (lN (mrk N (N 41) (s i + 1)))) 1 N := a3
    obtain ⟨z, ez, ez2⟩ : ∃ z, f_X3_markAbove 1 (nI (N 41)) (nI (s i)) (sL h' (58 + 7) i (lN (mrk N (N 41) (s i + 1)))) = some (z, sL h' (58 + 7) i (lN (mrk N (N 41) (s i + 1)))) ∧ (1 ≤ s i → z = lN (mrk N (N 41) (s i))) := by
      by_cases q : 1 ≤ s i
      · exact ⟨_, mark8 a4 v hw q (by omega), fun _ => rfl⟩
      · obtain ⟨z, e⟩ := mark0 (p := 1) (nI (N 41)) (nI (s i)) (sL h' (58 + 7) i (lN (mrk N (N 41) (s i + 1))))
        exact ⟨z, e, fun w => absurd w q⟩
    rw [ez]
    simp only [Option.bind_some]
    refine ⟨_, ⟨by rw [sL1, sL1, c1], by rw [sL2, if_neg (by decide), sL2, if_neg (by decide)]; exact c2, fun c hc => ?_⟩, rfl⟩
    by_cases ec : c = i
    · rw [ec]
      refine ⟨?_, fun q => ?_⟩
      · rw [sL2, if_neg (by decide), sL2, if_pos rfl, if_pos rfl]
      · rw [sL2, if_pos rfl, if_pos rfl, ez2 q]
    · have := c3 c (by omega)
      refine ⟨?_, fun q => ?_⟩
      · rw [sL2, if_neg (by decide), sL2, if_pos rfl, if_neg ec]
        exact this.1
      · rw [sL2, if_pos rfl, if_neg ec, sL2, if_neg (by decide)]
        exact this.2 q
  · rintro K h' ⟨c1, c2, c3⟩
    have g : Rg N s h' := ⟨fun c hc => by
      rw [c1]
      exact ⟨r63 c hc, r64 c hc, (c3 c hc).1, (c3 c hc).2⟩, c2⟩
    have e0 : h'.1 58 0 = bits4 Qw := by rw [c1]; exact h0
    have e1 : h'.1 58 1 = bits6 Qp := by rw [c1]; exact h1
    have q4 := cQ_le Qw 4
    have q6 := cQ_le Qp 6
    have b4 := bit4 Qw h'
    have b6 := bit6 Qp h'
    have emin : (if nI (cQ Qp 6) < nI (cQ Qw 4) then nI (cQ Qp 6) else nI (cQ Qw 4)) = nI (min (cQ Qw 4) (cQ Qp 6)) := by
      by_cases z : cQ Qp 6 < cQ Qw 4
      · rw [if_pos (nI_lt z (by omega)), Nat.min_eq_right (by omega)]
      · rw [if_neg (nI_nlt (by omega) (by omega)), Nat.min_eq_left (by omega)]
    obtain ⟨b, k1, k2, k3⟩ := first8L (Qw := Qw) (Qp := Qp) v bs g e0 e1 (mm := min (cQ Qw 4) (cQ Qp 6)) (by omega)
    generalize hl : lp (F := Nat → Int32 → Int32 → Hp → Option (Int32 × Hp)) (fun _ _ _ _ => none) f_X4_firstBetter_112 1000 = LL at k1
    show ∃ b, f_X4_firstBetter_37 K 58 1 (nI 24) h' = some b ∧ _
    unfold f_X4_firstBetter_37
    rw [hl]
    generalize cQ Qw 4 = n4 at q4 q6 emin k1 k3 b4
    generalize cQ Qp 6 = n6 at q4 q6 emin k1 k3 b6
    rw [if_pos (show (24 : Int32) ≤ nI 24 by decide), e0, b4, Option.bind_some]
    dsimp only
    rw [e1, b6, Option.bind_some]
    dsimp only [lt]
    rw [emin]
    exact ⟨b, k1, k2, k3⟩
theorem first8 {N s : Nat → Nat} (v : Vn N) (hpw : planW (N 41)) {Qw Qp : Nat → Bool} (bs : ∀ c, c < 24 → s c ≤ 260) {h : Hp} (a : Pc h 1 N) {x : Nat} (hx : x < 58 ∨ 67 ≤ x) (hlx : ln x = 24) (es : ∀ c, c < 24 → h.1 x c = nI (s c)) (h0 : h.1 58 0 = bits4 Qw) (h1 : h.1 58 1 = bits6 Qp) : ∃ b, f_X4_firstBetter 58 1 x h = some b ∧ (b.2.1 58 0 = h.1 58 0 ∧ b.2.1 58 1 = h.1 58 1) ∧ rb8 (fB N s Qw Qp) b := by
  have hw := v.w
  have e24 : Int32.toNatClampNeg 0 + Int32.toNatClampNeg 24 ≤ 24 := by decide
  unfold fB
  generalize hl : lp (F := Nat → Nat → Int32 → Hp → Option (Int32 × Hp)) (fun _ _ _ _ => none) f_X4_firstBetter_37 1000 = LL
  unfold f_X4_firstBetter
  rw [hl]
  dsimp only [lt]
  rw [hlx, if_pos e24]
  generalize hm2 : rI (rI h (58 + 6) (va_cpy (h.1 (1 + 1)) (h.1 (58 + 6)) (Int32.toNatClampNeg 0) (Int32.toNatClampNeg 0) (Int32.toNatClampNeg 24))) (58 + 5) (va_cpy ((rI h (58 + 6) (va_cpy (h.1 (1 + 1)) (h.1 (58 + 6)) (Int32.toNatClampNeg 0) (Int32.toNatClampNeg 0) (Int32.toNatClampNeg 24))).1 x) ((rI h (58 + 6) (va_cpy (h.1 (1 + 1)) (h.1 (58 + 6)) (Int32.toNatClampNeg 0) (Int32.toNatClampNeg 0) (Int32.toNatClampNeg 24))).1 (58 + 5)) (Int32.toNatClampNeg 0) (Int32.toNatClampNeg 0) (Int32.toNatClampNeg 24)) = m2
  have fr2 : ∀ r, r ≠ 63 → r ≠ 64 → m2.1 r = h.1 r := fun r p q => by rw [← hm2, rI_ne _ _ p, rI_ne _ _ q]
  have r63 : ∀ c, c < 24 → m2.1 63 c = nI (s c) := fun c hc => by
    rw [← hm2, rI_self, rI_ne _ _ (by omega), cpyz cl24 hc]
    exact es c hc
  have r64 : ∀ c, c < 24 → m2.1 64 c = nI (N c) := fun c hc => by
    rw [← hm2, rI_ne _ _ (by decide), rI_self, cpyz cl24 hc]
    exact cast8 a hc
  clear hm2
  have a2 : Pc m2 1 N := a.keep (fun j hj => fr2 _ (by omega) (by omega))
  have ew2 : m2.1 1 5 = nI (N 41) := a2 41 (by decide)
  have epb : f_X3_planMarkBelow 1 m2 = some (lN (blw N (N 41) 1), m2) := by
    unfold f_X3_planMarkBelow
    rw [ew2, show f_X3_priceAbove 1 (nI (N 41)) 1 1 m2 = _ from pay8 (n := 1) (u := 1) a2 v hw (Nat.le_refl 1) (by decide), pay_p hpw]
    rfl
  rw [epb, Option.bind_some]
  dsimp only
  obtain ⟨b, k1, k2, k3⟩ := first8M v bs a2 r63 r64 (by rw [fr2 58 (by decide) (by decide)]; exact h0) (by rw [fr2 58 (by decide) (by decide)]; exact h1) (m5 := sL m2 58 11 (lN (blw N (N 41) 1))) (sL1 _ _ _ _) (by rw [sL2, if_pos rfl, if_pos rfl])
  rw [hl] at k1
  refine ⟨b, k1, ?_, k3⟩
  rw [h0, h1]
  exact k2
