/-- what looking for wards leaves -/
def Vfr (j : Nat) (h h' : Hp) : Prop := (∀ a, a ≠ 132 → a ≠ 133 → a ≠ 108 → h'.1 a = h.1 a) ∧ h'.2 = h.2 ∧ (∀ i, i ≠ 38 → h'.1 108 i = h.1 108 i) ∧ ∀ i, i < j → h'.1 132 i = h.1 132 i
theorem Vfr.refl {j : Nat} {h : Hp} : Vfr j h h := ⟨fun _ _ _ _ => rfl, rfl, fun _ _ => rfl, fun _ _ => rfl⟩
theorem Vfr.trans {j : Nat} {h h1 h2 : Hp} (a : Vfr j h h1) (b : Vfr j h1 h2) : Vfr j h h2 := ⟨fun x p q r => (b.1 x p q r).trans (a.1 x p q r), b.2.1.trans a.2.1, fun i hi => (b.2.2.1 i hi).trans (a.2.2.1 i hi), fun i hi => (b.2.2.2 i hi).trans (a.2.2.2 i hi)⟩
theorem Vfr.mono {j j' : Nat} {h h1 : Hp} (a : Vfr j h h1) (hj : j' ≤ j) : Vfr j' h h1 := ⟨a.1, a.2.1, a.2.2.1, fun i hi => a.2.2.2 i (by omega)⟩
theorem Qfr.v {i j : Nat} {h h' : Hp} (a : Qfr i h h') : Vfr j h h' := ⟨fun x _ p q => a.1 x p q, a.2.1, a.2.2.1, fun i _ => by rw [a.1 132 (by decide) (by decide)]⟩
theorem Ls.v {Qw Qp : Nat → Bool} {h h' : Hp} {j : Nat} (l : Ls Qw Qp h) (f : Vfr j h h') : Ls Qw Qp h' := by
  unfold Ls
  rw [f.2.2.1 31 (by decide), f.2.2.1 32 (by decide), f.1 128 (by decide) (by decide) (by decide), f.1 129 (by decide) (by decide) (by decide)]
  exact l
def rw9 (k : Nat) (o : Option (Option ((Nat → Nat) × (Nat → Nat)))) (b : Int32 × Hp) : Prop := match o with
  | none => b.1 = 0 ∧ b.2.1 108 38 = 0
  | some none => b.1 = 1 ∧ b.2.1 108 38 = 1
  | some (some x) => b.1 = 1 ∧ b.2.1 108 38 = 0 ∧ Qk k x.1 x.2 k b.2
theorem findW9 {N s : Nat → Nat} (v : Vn N) (hpw : planW (N 41)) {Qw Qp : Nat → Bool} {k : Nat} (hk0 : 0 < k) (hk : k ≤ 4) (bs : ∀ c, c < 24 → s c ≤ 260) {a : Nat} (ha : a ≠ 108) (ha2 : a ≠ 133) (ha3 : a ≠ 132) (hla : ln a = 24) : ∀ r n rw' h, r < n → r ≤ k → Ls Qw Qp h → Po h 109 N → (∀ c, c < 24 → h.1 a c = nI (s c)) → h.1 108 38 = 0 → h.1 108 35 = nI k → (∀ i, i < k - r → h.1 132 i = nI (rw' i) ∧ rw' i < 4) → ∃ b, f_X9_findsWards n 108 a (nI (k - r)) h = some b ∧ Vfr (k - r) h b.2 ∧ rw9 k (sW N s Qw Qp k r rw') b := by
  intro r
  induction r with
  | zero =>
    intro n rw' h hn hr l b es h38 h35 hw
    obtain ⟨n, rfl⟩ : ∃ m, n = m + 1 := ⟨n - 1, by omega⟩
    rw [Nat.sub_zero] at hw ⊢
    show ∃ b, f_X9_findsWards_0 (f_X9_findsWards n) 108 a (nI k) h = some b ∧ _
    obtain ⟨b2, e1, f1, q1⟩ := findP9 (Qw := Qw) (Qp := Qp) v hpw hk0 hk (rw' := rw') bs ha ha2 hla k 8 (fun _ => 0) h (by omega) (Nat.le_refl k) l b es h38 (by rw [Nat.sub_self]; exact ⟨h35, fun i hi => (hw i hi).1, fun i hi => absurd hi (Nat.not_lt_zero i)⟩) (by rw [Nat.sub_self]; exact ⟨fun i hi => (hw i hi).2, fun i hi => absurd hi (Nat.not_lt_zero i), fun i hi => absurd hi (Nat.not_lt_zero i)⟩)
    rw [Nat.sub_self] at e1
    unfold f_X9_findsWards_0
    rw [h35, if_pos rfl, show f_X9_findsParties 8 108 a 0 h = some b2 from e1, Option.bind_some]
    unfold sW
    cases ho : sP N s Qp k rw' k (fun _ => 0) with
    | none =>
      rw [ho] at q1
      rw [if_pos (by rw [show b2.1 = 0 from q1.1]; rfl)]
      exact ⟨b2, rfl, f1.v, q1⟩
    | some x =>
      rw [ho] at q1
      cases x with
      | none =>
        rw [if_pos (by rw [show b2.1 = 1 from q1.1]; rfl)]
        exact ⟨b2, rfl, f1.v, q1⟩
      | some y =>
        rw [if_pos (by rw [show b2.1 = 1 from q1.1]; rfl)]
        exact ⟨b2, rfl, f1.v, q1⟩
  | succ r ih =>
    intro n rw' h hn hr l b es h38 h35 hw
    obtain ⟨n, rfl⟩ : ∃ m, n = m + 1 := ⟨n - 1, by omega⟩
    have hj : k - (r + 1) < k := by omega
    have hj1 : k - (r + 1) + 1 = k - r := by omega
    have eS : ∀ j, k - (r + 1) = j → sW N s Qw Qp k (r + 1) rw' = frst (fun w => if (Qw w && notin rw' j w) = true then sW N s Qw Qp k r (up rw' j w) else none) 4 0 := fun j e => by
      rw [← e]
      rfl
    generalize hjj : k - (r + 1) = j at hw hj hj1
    rw [eS j hjj]
    show ∃ b, f_X9_findsWards_0 (f_X9_findsWards n) 108 a (nI j) h = some b ∧ _
    unfold f_X9_findsWards_0
    rw [h35, if_neg (by rw [nI_eq (by omega) (by omega)]; omega)]
    have loop := lp_skipE (F := Nat → Nat → Int32 → Int32 → Hp → Option (Int32 × Hp)) (bot := fun _ _ _ _ _ => none) (G := f_X9_findsWards_17 (f_X9_findsWards n)) (fun K i (h : Hp) => K 108 a (nI j) (nI i) h) 4 Qw (fun i h' => Vfr j h h' ∧ h'.1 108 38 = 0 ∧ frst (fun w => if (Qw w && notin rw' j w) = true then sW N s Qw Qp k r (up rw' j w) else none) 4 0 = frst (fun w => if (Qw w && notin rw' j w) = true then sW N s Qw Qp k r (up rw' j w) else none) (4 - i) i) (fun b => Vfr j h b.2 ∧ rw9 k (frst (fun w => if (Qw w && notin rw' j w) = true then sW N s Qw Qp k r (up rw' j w) else none) 4 0) b) ?_ ?_ ?_ 4 1000 0 h rfl (by omega) ⟨Vfr.refl, h38, rfl⟩
    · exact loop
    · rintro i h' hi hq ⟨c1, c2, c3⟩
      exact ⟨c1, c2, frst_n hi c3 (if_neg (by simp [hq]))⟩
    · rintro K p h1 hp hQ ⟨c1, c2, c3⟩
      have hcl := cQ_lt hp hQ
      have hc4 := cQ_le Qw 4
      have l1 := l.v c1
      have e20 : h1.1 (108 + 20) (cQ Qw p) = nI p := l1.2.2.1 p hp hQ
      show (∃ s', _ ∧ f_X9_findsWards_17 (f_X9_findsWards n) K 108 a (nI j) (nI (cQ Qw p)) h1 = _) ∨ ∃ b, f_X9_findsWards_17 (f_X9_findsWards n) K 108 a (nI j) (nI (cQ Qw p)) h1 = some b ∧ _
      unfold f_X9_findsWards_17 f_X9_findsWards_64
      rw [l1.1, if_neg (nI_ge hcl (by omega)), if_pos (ix4 (by omega)), nI_clamp (by omega), e20, ringW9 (rp := rw') (by omega) (by omega) (fun i hi => ⟨by rw [c1.2.2.2 i hi]; exact (hw i hi).1, by have := (hw i hi).2; omega⟩), Option.bind_some]
      dsimp only [lt]
      by_cases hn' : notin rw' j p = true
      · have hf' : (Qw p && notin rw' j p) = true := by rw [hQ, hn']; rfl
        rw [if_pos (if_pos hn'), if_pos (ix4 (by omega)), if_pos (ix4 (by omega)), e20, nI_clamp (by omega), nI_1, nI_1, hj1]
        have c4 : Vfr j h1 (sI h1 (108 + 24) j (nI p)) := ⟨fun y p1 p2 p3 => sI_row _ _ _ p1, rfl, fun i hi => by rw [sI_row _ _ _ (by decide)], fun i hi => by rw [sI1, if_pos rfl, if_neg (by omega)]⟩
        have ct := c1.trans c4
        obtain ⟨b2, e1, f1, q1⟩ := ih n (up rw' j p) (sI h1 (108 + 24) j (nI p)) (by omega) (by omega) (l.v ct) (b.keep (ct.1 109 (by decide) (by decide) (by decide))) (fun c hc => by rw [ct.1 a ha3 ha2 ha]; exact es c hc) (by rw [sI_row _ _ _ (by decide)]; exact c2) (by rw [ct.2.2.1 35 (by decide)]; exact h35) (fun i hi => by
          by_cases ei : i = j
          · rw [ei, up_self, sI1, if_pos rfl, if_pos rfl]
            exact ⟨rfl, hp⟩
          · rw [up_ne _ _ ei, ct.2.2.2 i (by omega)]
            exact hw i (by omega))
        rw [e1, Option.bind_some]
        have ft : Vfr j h b2.2 := ct.trans (f1.mono (by omega))
        cases ho : sW N s Qw Qp k r (up rw' j p) with
        | none =>
          left
          rw [ho] at q1
          rw [if_pos (show b2.1 = 0 from q1.1)]
          exact ⟨b2.2, ⟨ft, q1.2, frst_n hp c3 (by rw [if_pos hf']; exact ho)⟩, rfl⟩
        | some x =>
          right
          rw [ho] at q1
          have e1' : b2.1 = 1 := by
            cases x with
            | none => exact q1.1
            | some y => exact q1.1
          rw [if_neg (by rw [e1']; exact one_ne), if_pos isB1]
          refine ⟨(1, b2.2), rfl, ft, ?_⟩
          rw [frst_s hp c3 (by rw [if_pos hf']; exact ho)]
          cases x with
          | none => exact ⟨rfl, q1.2⟩
          | some y => exact ⟨rfl, q1.2⟩
      · left
        rw [if_neg (by rw [if_neg hn']; exact one_ne), nI_1]
        exact ⟨h1, ⟨c1, c2, frst_n hp c3 (if_neg (by simp [hn']))⟩, rfl⟩
    · rintro K h1 ⟨c1, c2, c3⟩
      have l1 := l.v c1
      have hc4 := cQ_le Qw 4
      show ∃ b, f_X9_findsWards_17 (f_X9_findsWards n) K 108 a (nI j) (nI (cQ Qw 4)) h1 = some b ∧ _
      unfold f_X9_findsWards_17
      rw [l1.1, if_pos (nI_le (Nat.le_refl _) (by omega)), if_pos isB0]
      refine ⟨_, rfl, c1, ?_⟩
      rw [frst_e c3]
      exact ⟨rfl, c2⟩
def rb9 (o : Option (Nat × Option ((Nat → Nat) × (Nat → Nat)))) (b : Int32 × Hp) : Prop := match o with
  | none => b.1 = 0 ∧ b.2.1 108 38 = 0
  | some (_, none) => b.1 = 1 ∧ b.2.1 108 38 = 1
  | some (k, some x) => b.1 = 1 ∧ b.2.1 108 38 = 0 ∧ Qk k x.1 x.2 k b.2
theorem finds9L {N s : Nat → Nat} (v : Vn N) (hpw : planW (N 41)) {Qw Qp : Nat → Bool} (bs : ∀ c, c < 24 → s c ≤ 260) {a : Nat} (ha : a ≠ 108) (ha2 : a ≠ 133) (ha3 : a ≠ 132) (hla : ln a = 24) {h : Hp} (l : Ls Qw Qp h) (b : Po h 109 N) (es : ∀ c, c < 24 → h.1 a c = nI (s c)) (h38 : h.1 108 38 = 0) {mm : Nat} (hmm : mm ≤ 4) : ∃ o, lp (F := Nat → Nat → Int32 → Hp → Option (Int32 × Hp)) (fun _ _ _ _ => none) f_X9_finds_26 1000 108 a (nI mm) (sI h 108 35 (nI 2)) = some o ∧ rb9 (frst (fBi N s Qw Qp) (mm - 1) 0) o := by
  refine lp_invE (F := Nat → Nat → Int32 → Hp → Option (Int32 × Hp)) (bot := fun _ _ _ _ => none) (G := f_X9_finds_26) (fun K i (h2 : Hp) => K 108 a (nI mm) h2) (mm - 1) (fun i h2 => Vfr 0 (sI h 108 35 (nI (i + 2))) h2 ∧ h2.1 108 38 = 0 ∧ frst (fBi N s Qw Qp) (mm - 1) 0 = frst (fBi N s Qw Qp) (mm - 1 - i) i) _ ?_ ?_ 1000 0 (sI h 108 35 (nI 2)) (by omega) (by omega) ⟨Vfr.refl, by rw [sI1, if_pos rfl, if_neg (by decide)]; exact h38, rfl⟩
  · rintro K i h2 hi ⟨d1, d2, d3⟩
    have lz : Ls Qw Qp (sI h 108 35 (nI (i + 2))) := by
      unfold Ls
      rw [sI1, if_pos rfl, if_neg (by decide), sI1, if_pos rfl, if_neg (by decide), sI_row _ _ _ (by decide), sI_row _ _ _ (by decide)]
      exact l
    have e35 : h2.1 108 35 = nI (i + 2) := by rw [d1.2.2.1 35 (by decide), sI1, if_pos rfl, if_pos rfl]
    obtain ⟨b2, p1, p2, p3⟩ := findW9 (Qw := Qw) (Qp := Qp) v hpw (show 0 < i + 2 by omega) (show i + 2 ≤ 4 by omega) bs ha ha2 ha3 hla (i + 2) 8 (fun _ => 0) h2 (by omega) (Nat.le_refl _) (lz.v d1) (b.keep (by rw [d1.1 109 (by decide) (by decide) (by decide), sI_row _ _ _ (by decide)])) (fun c hc => by rw [d1.1 a ha3 ha2 ha, sI_row _ _ _ ha]; exact es c hc) d2 e35 (fun j hj => by omega)
    rw [Nat.sub_self] at p1 p2
    have e35b : b2.2.1 108 35 = nI (i + 2) := by rw [p2.2.2.1 35 (by decide)]; exact e35
    show (∃ s', _ ∧ f_X9_finds_26 K 108 a (nI mm) h2 = _) ∨ ∃ b, f_X9_finds_26 K 108 a (nI mm) h2 = some b ∧ _
    unfold f_X9_finds_26
    rw [e35, if_neg (nI_nlt (by omega) (by omega)), show f_X9_findsWards 8 108 a 0 h2 = some b2 from p1, Option.bind_some]
    dsimp only [lt]
    cases ho : sW N s Qw Qp (i + 2) (i + 2) (fun _ => 0) with
    | none =>
      left
      rw [ho] at p3
      rw [if_pos (show b2.1 = 0 from p3.1), e35b, nI_1]
      refine ⟨_, ⟨⟨fun x q1 q2 q3 => ?_, ?_, fun t ht => ?_, fun t ht => absurd ht (Nat.not_lt_zero t)⟩, by rw [sI1, if_pos rfl, if_neg (by decide)]; exact p3.2, frst_n hi d3 (fBi_n ho)⟩, rfl⟩
      · rw [sI_row _ _ _ q3, sI_row _ _ _ q3, p2.1 x q1 q2 q3, d1.1 x q1 q2 q3, sI_row _ _ _ q3]
      · show b2.2.2 = h.2
        rw [p2.2.1, d1.2.1]
        rfl
      · rw [sI1, if_pos rfl, sI1, if_pos rfl]
        by_cases et : t = 35
        · rw [if_pos et, if_pos et]
        · rw [if_neg et, if_neg et, p2.2.2.1 t ht, d1.2.2.1 t ht, sI1, if_pos rfl, if_neg et]
    | some y =>
      right
      rw [ho] at p3
      have e1' : b2.1 = 1 := by
        cases y with
        | none => exact p3.1
        | some y => exact p3.1
      rw [if_neg (by rw [e1']; exact one_ne), if_pos isB1]
      refine ⟨(1, b2.2), rfl, ?_⟩
      rw [frst_s hi d3 (fBi_s ho)]
      cases y with
      | none => exact ⟨rfl, p3.2⟩
      | some y => exact ⟨rfl, p3.2⟩
  · rintro K h2 ⟨d1, d2, d3⟩
    have e35 : h2.1 108 35 = nI (mm - 1 + 2) := by rw [d1.2.2.1 35 (by decide), sI1, if_pos rfl, if_pos rfl]
    show ∃ b, f_X9_finds_26 K 108 a (nI mm) h2 = some b ∧ _
    unfold f_X9_finds_26
    rw [e35, if_pos (nI_lt (by omega) (by omega)), if_pos isB0]
    refine ⟨_, rfl, ?_⟩
    rw [frst_e d3]
    exact ⟨rfl, d2⟩
theorem minI {a b : Nat} (ha : a < 2 ^ 31) (hb : b < 2 ^ 31) : (if nI a < nI b then nI a else nI b) = nI (min a b) := by
  by_cases z : a < b
  · rw [if_pos (nI_lt z hb), Nat.min_eq_left (by omega)]
  · rw [if_neg (nI_nlt (by omega) ha), Nat.min_eq_right (by omega)]
theorem finds9 {N s : Nat → Nat} (v : Vn N) (hpw : planW (N 41)) {Qw Qp : Nat → Bool} (bs : ∀ c, c < 24 → s c ≤ 260) {a : Nat} (ha : a ≠ 108) (ha2 : a ≠ 133) (ha3 : a ≠ 132) (hla : ln a = 24) {h : Hp} (l : Ls Qw Qp h) (b : Po h 109 N) (es : ∀ c, c < 24 → h.1 a c = nI (s c)) : ∃ o, f_X9_finds 108 a h = some o ∧ rb9 (fB N s Qw Qp) o := by
  have lz : Ls Qw Qp (sI h 108 38 0) := by
    unfold Ls
    rw [sI1, if_pos rfl, if_neg (by decide), sI1, if_pos rfl, if_neg (by decide), sI_row _ _ _ (by decide), sI_row _ _ _ (by decide)]
    exact l
  have hw4 := cQ_le Qw 4
  have hp6 := cQ_le Qp 6
  unfold fB
  obtain ⟨o, e, q⟩ := finds9L (N := N) (s := s) (Qw := Qw) (Qp := Qp) v hpw bs ha ha2 ha3 hla lz (b.keep (sI_row _ _ _ (by decide))) (fun c hc => by rw [sI_row _ _ _ ha]; exact es c hc) (by rw [sI1, if_pos rfl, if_pos rfl]) (mm := min 4 (min (cQ Qw 4) (cQ Qp 6))) (by omega)
  refine ⟨o, ?_, q⟩
  generalize hl : lp (F := Nat → Nat → Int32 → Hp → Option (Int32 × Hp)) (fun _ _ _ _ => none) f_X9_finds_26 1000 = LL at e
  unfold f_X9_finds
  rw [hl]
  dsimp only [lt]
  rw [lz.1, lz.2.1, minI (by omega) (by omega), show (4 : Int32) = nI 4 from rfl, minI (by omega) (by omega), show min (min (cQ Qp 6) (cQ Qw 4)) 4 = min 4 (min (cQ Qw 4) (cQ Qp 6)) by omega]
  exact e
