/-- the reference's lists of wards and parties -/
def Ls (Qw Qp : Nat → Bool) (h : Hp) : Prop := h.1 108 31 = nI (cQ Qw 4) ∧ h.1 108 32 = nI (cQ Qp 6) ∧ (∀ w, w < 4 → Qw w = true → h.1 128 (cQ Qw w) = nI w) ∧ ∀ p, p < 6 → Qp p = true → h.1 129 (cQ Qp p) = nI p
/-- what looking for parties leaves -/
def Qfr (j : Nat) (h h' : Hp) : Prop := (∀ a, a ≠ 133 → a ≠ 108 → h'.1 a = h.1 a) ∧ h'.2 = h.2 ∧ (∀ i, i ≠ 38 → h'.1 108 i = h.1 108 i) ∧ ∀ i, i < j → h'.1 133 i = h.1 133 i
theorem Qfr.refl {j : Nat} {h : Hp} : Qfr j h h := ⟨fun _ _ _ => rfl, rfl, fun _ _ => rfl, fun _ _ => rfl⟩
theorem Qfr.trans {j : Nat} {h h1 h2 : Hp} (a : Qfr j h h1) (b : Qfr j h1 h2) : Qfr j h h2 := ⟨fun x p q => (b.1 x p q).trans (a.1 x p q), b.2.1.trans a.2.1, fun i hi => (b.2.2.1 i hi).trans (a.2.2.1 i hi), fun i hi => (b.2.2.2 i hi).trans (a.2.2.2 i hi)⟩
theorem Qfr.mono {j j' : Nat} {h h1 : Hp} (a : Qfr j h h1) (hj : j' ≤ j) : Qfr j' h h1 := ⟨a.1, a.2.1, a.2.2.1, fun i hi => a.2.2.2 i (by omega)⟩
theorem Qfr.hf {j : Nat} {h h1 : Hp} (a : Qfr j h h1) (x : Bool) : Qfr j h (hf h1 x) := ⟨fun y p q => by rw [hf_row _ _ q]; exact a.1 y p q, by rw [hf_2]; exact a.2.1, fun i hi => by rw [hf_108 _ _ hi]; exact a.2.2.1 i hi, fun i hi => by rw [hf_row _ _ (by decide)]; exact a.2.2.2 i hi⟩
theorem Ls.q {Qw Qp : Nat → Bool} {h h' : Hp} {j : Nat} (l : Ls Qw Qp h) (f : Qfr j h h') : Ls Qw Qp h' := by
  unfold Ls
  rw [f.2.2.1 31 (by decide), f.2.2.1 32 (by decide), f.1 128 (by decide) (by decide), f.1 129 (by decide) (by decide)]
  exact l
theorem Qk.q {k j : Nat} {rw' rp : Nat → Nat} {h h' : Hp} (q : Qk k rw' rp j h) (f : Qfr j h h') : Qk k rw' rp j h' := ⟨by rw [f.2.2.1 35 (by decide)]; exact q.1, fun i hi => by rw [f.1 132 (by decide) (by decide)]; exact q.2.1 i hi, fun i hi => by rw [f.2.2.2 i hi]; exact q.2.2 i hi⟩
theorem ringP9 {h : Hp} {rp : Nat → Nat} {j p : Nat} (hj : j ≤ 4) (hp : p < 6) (e : ∀ i, i < j → h.1 133 i = nI (rp i) ∧ rp i < 6) : f_X9_isRingParty 108 (nI j) (nI p) h = some (if notin rp j p = true then 0 else 1, h) := by
  have key : ∃ b, f_X9_isRingParty 108 (nI j) (nI p) h = some b ∧ b = (if notin rp j p = true then 0 else 1, h) := by
    unfold f_X9_isRingParty
    refine lp_invE (F := Nat → Int32 → Int32 → Int32 → Hp → Option (Int32 × Hp)) (bot := fun _ _ _ _ _ => none) (G := f_X9_isRingParty_2) (fun K i (_ : Unit) => K 108 (nI j) (nI p) (nI i) h) j (fun i _ => ∀ t, t < i → rp t ≠ p) _ ?_ ?_ 1000 0 () (by omega) (by omega) (fun t ht => absurd ht (Nat.not_lt_zero t))
    · intro K i _ hi hI
      obtain ⟨e1, e2⟩ := e i hi
      show (∃ s', _ ∧ f_X9_isRingParty_2 K 108 (nI j) (nI p) (nI i) h = _) ∨ ∃ b, f_X9_isRingParty_2 K 108 (nI j) (nI p) (nI i) h = some b ∧ _
      unfold f_X9_isRingParty_2
      rw [if_neg (nI_ge hi (by omega)), if_pos (ix4 (by omega)), nI_clamp (by omega), show h.1 (108 + 25) i = _ from e1]
      by_cases z : rp i = p
      · right
        rw [if_pos (by rw [z]), if_pos isB1]
        refine ⟨_, rfl, ?_⟩
        rw [if_neg (fun w => (notin_iff j).mp w i hi z)]
      · left
        rw [if_neg (by rw [nI_eq (by omega) (by omega)]; exact z)]
        refine ⟨(), fun t ht => ?_, by simp only [lt, nI_1]⟩
        by_cases et : t = i
        · rw [et]
          exact z
        · exact hI t (by omega)
    · intro K _ hI
      show ∃ b, f_X9_isRingParty_2 K 108 (nI j) (nI p) (nI j) h = some b ∧ _
      unfold f_X9_isRingParty_2
      rw [if_pos (nI_le (Nat.le_refl j) (by omega)), if_pos isB0]
      refine ⟨_, rfl, ?_⟩
      rw [if_pos ((notin_iff j).mpr hI)]
  obtain ⟨b, e1, rfl⟩ := key
  exact e1
theorem ringW9 {h : Hp} {rp : Nat → Nat} {j p : Nat} (hj : j ≤ 4) (hp : p < 6) (e : ∀ i, i < j → h.1 132 i = nI (rp i) ∧ rp i < 6) : f_X9_isRingWard 108 (nI j) (nI p) h = some (if notin rp j p = true then 0 else 1, h) := by
  have key : ∃ b, f_X9_isRingWard 108 (nI j) (nI p) h = some b ∧ b = (if notin rp j p = true then 0 else 1, h) := by
    unfold f_X9_isRingWard
    refine lp_invE (F := Nat → Int32 → Int32 → Int32 → Hp → Option (Int32 × Hp)) (bot := fun _ _ _ _ _ => none) (G := f_X9_isRingWard_2) (fun K i (_ : Unit) => K 108 (nI j) (nI p) (nI i) h) j (fun i _ => ∀ t, t < i → rp t ≠ p) _ ?_ ?_ 1000 0 () (by omega) (by omega) (fun t ht => absurd ht (Nat.not_lt_zero t))
    · intro K i _ hi hI
      obtain ⟨e1, e2⟩ := e i hi
      show (∃ s', _ ∧ f_X9_isRingWard_2 K 108 (nI j) (nI p) (nI i) h = _) ∨ ∃ b, f_X9_isRingWard_2 K 108 (nI j) (nI p) (nI i) h = some b ∧ _
      unfold f_X9_isRingWard_2
      rw [if_neg (nI_ge hi (by omega)), if_pos (ix4 (by omega)), nI_clamp (by omega), show h.1 (108 + 24) i = _ from e1]
      by_cases z : rp i = p
      · right
        rw [if_pos (by rw [z]), if_pos isB1]
        refine ⟨_, rfl, ?_⟩
        rw [if_neg (fun w => (notin_iff j).mp w i hi z)]
      · left
        rw [if_neg (by rw [nI_eq (by omega) (by omega)]; exact z)]
        refine ⟨(), fun t ht => ?_, by simp only [lt, nI_1]⟩
        by_cases et : t = i
        · rw [et]
          exact z
        · exact hI t (by omega)
    · intro K _ hI
      show ∃ b, f_X9_isRingWard_2 K 108 (nI j) (nI p) (nI j) h = some b ∧ _
      unfold f_X9_isRingWard_2
      rw [if_pos (nI_le (Nat.le_refl j) (by omega)), if_pos isB0]
      refine ⟨_, rfl, ?_⟩
      rw [if_pos ((notin_iff j).mpr hI)]
  obtain ⟨b, e1, rfl⟩ := key
  exact e1
def rs9 (k : Nat) (rw' : Nat → Nat) (o : Option (Option (Nat → Nat))) (b : Int32 × Hp) : Prop := match o with
  | none => b.1 = 0 ∧ b.2.1 108 38 = 0
  | some none => b.1 = 1 ∧ b.2.1 108 38 = 1
  | some (some rp) => b.1 = 1 ∧ b.2.1 108 38 = 0 ∧ Qk k rw' rp k b.2
theorem findP9 {N s : Nat → Nat} (v : Vn N) (hpw : planW (N 41)) {Qw Qp : Nat → Bool} {k : Nat} (hk0 : 0 < k) (hk : k ≤ 4) {rw' : Nat → Nat} (bs : ∀ c, c < 24 → s c ≤ 260) {a : Nat} (ha : a ≠ 108) (ha2 : a ≠ 133) (hla : ln a = 24) : ∀ r n rp h, r < n → r ≤ k → Ls Qw Qp h → Po h 109 N → (∀ c, c < 24 → h.1 a c = nI (s c)) → h.1 108 38 = 0 → Qk k rw' rp (k - r) h → Rb s k rw' rp (k - r) → ∃ b, f_X9_findsParties n 108 a (nI (k - r)) h = some b ∧ Qfr (k - r) h b.2 ∧ rs9 k rw' (sP N s Qp k rw' r rp) b := by
  intro r
  induction r with
  | zero =>
    intro n rp h hn hr l b es h38 qk rb
    obtain ⟨n, rfl⟩ : ∃ m, n = m + 1 := ⟨n - 1, by omega⟩
    rw [Nat.sub_zero] at qk rb ⊢
    show ∃ b, f_X9_findsParties_0 (f_X9_findsParties n) 108 a (nI k) h = some b ∧ _
    unfold f_X9_findsParties_0 f_X9_findsParties_23
    rw [qk.1, if_pos rfl, better9 v hpw hk0 hk rb bs ha hla qk b es h38, Option.bind_some]
    dsimp only
    unfold sP
    cases hw : wgh N s k rw' rp with
    | none =>
      rw [if_pos (if_neg (fun z => by cases z)), if_neg (by show ¬ (hf h true).1 108 38 = 0; unfold hf; rw [if_pos rfl, sI1, if_pos rfl, if_pos rfl]; decide), if_pos isB1]
      refine ⟨_, rfl, Qfr.refl.hf true, rfl, ?_⟩
      show (hf h true).1 108 38 = 1
      unfold hf
      rw [if_pos rfl, sI1, if_pos rfl, if_pos rfl]
    | some x =>
      cases x with
      | true =>
        rw [if_neg (by rw [if_pos rfl]; exact one_ne), if_pos isB1]
        exact ⟨_, rfl, Qfr.refl.hf false, rfl, h38, qk⟩
      | false =>
        rw [if_pos (if_neg (fun z => by cases z)), if_pos (show (hf h (some false : Option Bool).isNone).1 108 38 = 0 from h38), if_pos isB0]
        exact ⟨_, rfl, Qfr.refl.hf false, rfl, h38⟩
  | succ r ih =>
    intro n rp h hn hr l b es h38 qk rb
    obtain ⟨n, rfl⟩ : ∃ m, n = m + 1 := ⟨n - 1, by omega⟩
    have hj : k - (r + 1) < k := by omega
    have hj1 : k - (r + 1) + 1 = k - r := by omega
    have eS : ∀ j, k - (r + 1) = j → sP N s Qp k rw' (r + 1) rp = frst (fun p => if (Qp p && notin rp j p && decide (0 < s (6 * rw' ((k - r) % k) + p))) = true then sP N s Qp k rw' r (up rp j p) else none) 6 0 := fun j e => by
      rw [← e]
      rfl
    generalize hjj : k - (r + 1) = j at qk rb hj hj1
    rw [eS j hjj]
    have hlw : (k - r) % k < k := Nat.mod_lt _ hk0
    show ∃ b, f_X9_findsParties_0 (f_X9_findsParties n) 108 a (nI j) h = some b ∧ _
    unfold f_X9_findsParties_0
    rw [qk.1, if_neg (by rw [nI_eq (by omega) (by omega)]; omega)]
    have loop := lp_skipE (F := Nat → Nat → Int32 → Int32 → Hp → Option (Int32 × Hp)) (bot := fun _ _ _ _ _ => none) (G := f_X9_findsParties_31 (f_X9_findsParties n)) (fun K i (h : Hp) => K 108 a (nI j) (nI i) h) 6 Qp (fun i h' => Qfr j h h' ∧ h'.1 108 38 = 0 ∧ frst (fun p => if (Qp p && notin rp j p && decide (0 < s (6 * rw' ((k - r) % k) + p))) = true then sP N s Qp k rw' r (up rp j p) else none) 6 0 = frst (fun p => if (Qp p && notin rp j p && decide (0 < s (6 * rw' ((k - r) % k) + p))) = true then sP N s Qp k rw' r (up rp j p) else none) (6 - i) i) (fun b => Qfr j h b.2 ∧ rs9 k rw' (frst (fun p => if (Qp p && notin rp j p && decide (0 < s (6 * rw' ((k - r) % k) + p))) = true then sP N s Qp k rw' r (up rp j p) else none) 6 0) b) ?_ ?_ ?_ 6 1000 0 h rfl (by omega) ⟨Qfr.refl, h38, rfl⟩
    · exact loop
    · rintro i h' hi hq ⟨c1, c2, c3⟩
      exact ⟨c1, c2, frst_n hi c3 (if_neg (by simp [hq]))⟩
    · rintro K p h1 hp hQ ⟨c1, c2, c3⟩
      have hcl := cQ_lt hp hQ
      have hc6 := cQ_le Qp 6
      have l1 := l.q c1
      have qk1 := qk.q c1
      have e21 : h1.1 (108 + 21) (cQ Qp p) = nI p := l1.2.2.2 p hp hQ
      have hlb := rb.1 _ hlw
      have l24 : 6 * rw' ((k - r) % k) + p < 24 := by omega
      have bsl := bs _ l24
      show (∃ s', _ ∧ f_X9_findsParties_31 (f_X9_findsParties n) K 108 a (nI j) (nI (cQ Qp p)) h1 = _) ∨ ∃ b, f_X9_findsParties_31 (f_X9_findsParties n) K 108 a (nI j) (nI (cQ Qp p)) h1 = some b ∧ _
      unfold f_X9_findsParties_31 f_X9_findsParties_91
      rw [l1.2.1, if_neg (nI_ge hcl (by omega)), if_pos (ix6 (by omega)), cl6' (by omega), e21, ringP9 (rp := rp) (by omega) hp (fun i hi => ⟨qk1.2.2 i hi, rb.2.1 i hi⟩), Option.bind_some]
      dsimp only [lt]
      by_cases hn' : notin rp j p = true
      · rw [if_pos (if_pos hn'), if_pos (ix6 (by omega)), if_pos (ix4 (by omega)), e21, nI_clamp (by omega)]
        have c4 : Qfr j h1 (sI h1 (108 + 25) j (nI p)) := ⟨fun y p1 p2 => sI_row _ _ _ p1, rfl, fun i hi => by rw [sI_row _ _ _ (by decide)], fun i hi => by rw [sI1, if_pos rfl, if_neg (by omega)]⟩
        have qk2 : Qk k rw' (up rp j p) (k - r) (sI h1 (108 + 25) j (nI p)) := by
          have q := qk1.q c4
          refine ⟨q.1, q.2.1, fun i hi => ?_⟩
          by_cases ei : i = j
          · rw [ei, up_self, sI1, if_pos rfl, if_pos rfl]
          · rw [up_ne _ _ ei]
            exact q.2.2 i (by omega)
        have el : lC k rw' (up rp j p) j = 6 * rw' ((k - r) % k) + p := by unfold lC; rw [up_self, hj1]
        rw [givesUp9 qk2 hk0 hk (show j < k - r by omega) hj, Option.bind_some]
        dsimp only
        rw [hla, el, if_pos (ix24 l24), nI_clamp (by omega), (c1.trans c4).1 a ha2 ha, es _ l24, nI_1, nI_1]
        by_cases hs : 0 < s (6 * rw' ((k - r) % k) + p)
        · have hf' : (Qp p && notin rp j p && decide (0 < s (6 * rw' ((k - r) % k) + p))) = true := by rw [hQ, hn', decide_eq_true hs]; rfl
          have rb2 : Rb s k rw' (up rp j p) (k - r) := ⟨rb.1, fun i hi => by
            by_cases ei : i = j
            · rw [ei, up_self]
              exact hp
            · rw [up_ne _ _ ei]
              exact rb.2.1 i (by omega), fun i hi => by
            by_cases ei : i = j
            · rw [ei, el]
              exact hs
            · have := rb.2.2 i (by omega)
              unfold lC at this ⊢
              rw [up_ne _ _ ei]
              exact this⟩
          have ct := c1.trans c4
          obtain ⟨b2, e1, f1, q1⟩ := ih n (up rp j p) (sI h1 (108 + 25) j (nI p)) (by omega) (by omega) (l.q ct) (b.keep (ct.1 109 (by decide) (by decide))) (fun c hc => by rw [ct.1 a ha2 ha]; exact es c hc) (by rw [sI_row _ _ _ (by decide)]; exact c2) qk2 rb2
          rw [if_neg (nI_nle hs (by omega)), hj1, e1, Option.bind_some]
          have ft : Qfr j h b2.2 := ct.trans (f1.mono (by omega))
          cases ho : sP N s Qp k rw' r (up rp j p) with
          | none =>
            left
            rw [ho] at q1
            rw [if_pos (show b2.1 = 0 from q1.1)]
            exact ⟨b2.2, ⟨ft, q1.2, frst_n hp c3 (by rw [if_pos hf']; exact ho)⟩, rfl⟩
          | some x =>
            right
            rw [ho] at q1
            have e1' : b2.1 = 1 := by
              cases x with
              | none => exact q1.1
              | some y => exact q1.1
            rw [if_neg (by rw [e1']; exact one_ne), if_pos isB1]
            refine ⟨(1, b2.2), rfl, ft, ?_⟩
            rw [frst_s hp c3 (by rw [if_pos hf']; exact ho)]
            cases x with
            | none => exact ⟨rfl, q1.2⟩
            | some y => exact ⟨rfl, q1.2⟩
        · left
          rw [if_pos (by rw [show s (6 * rw' ((k - r) % k) + p) = 0 by omega]; decide)]
          refine ⟨_, ⟨c1.trans c4, by rw [sI_row _ _ _ (by decide)]; exact c2, frst_n hp c3 (if_neg (by rw [decide_eq_false hs, Bool.and_false]; decide))⟩, rfl⟩
      · left
        rw [if_neg (by rw [if_neg hn']; exact one_ne), nI_1]
        exact ⟨h1, ⟨c1, c2, frst_n hp c3 (if_neg (by rw [hQ]; simp [hn']))⟩, rfl⟩
    · rintro K h1 ⟨c1, c2, c3⟩
      have l1 := l.q c1
      have hc6 := cQ_le Qp 6
      show ∃ b, f_X9_findsParties_31 (f_X9_findsParties n) K 108 a (nI j) (nI (cQ Qp 6)) h1 = some b ∧ _
      unfold f_X9_findsParties_31
      rw [l1.2.1, if_pos (nI_le (Nat.le_refl _) (by omega)), if_pos isB0]
      refine ⟨_, rfl, c1, ?_⟩
      rw [frst_e c3]
      exact ⟨rfl, c2⟩
