/-- the first that is something, from i on, m at most -/
def frst {α : Type} (f : Nat → Option α) : Nat → Nat → Option α
  | 0, _ => none
  | m + 1, i => match f i with
    | some x => some x
    | none => frst f m (i + 1)
theorem frst_n {α : Type} {f : Nat → Option α} {n i : Nat} (hi : i < n) (h : frst f n 0 = frst f (n - i) i) (e : f i = none) : frst f n 0 = frst f (n - (i + 1)) (i + 1) := by
  rw [h, show n - i = (n - (i + 1)) + 1 by omega]
  show (match f i with
    | some x => some x
    | none => frst f (n - (i + 1)) (i + 1)) = _
  rw [e]
theorem frst_s {α : Type} {f : Nat → Option α} {n i : Nat} {x : α} (hi : i < n) (h : frst f n 0 = frst f (n - i) i) (e : f i = some x) : frst f n 0 = some x := by
  rw [h, show n - i = (n - (i + 1)) + 1 by omega]
  show (match f i with
    | some x => some x
    | none => frst f (n - (i + 1)) (i + 1)) = _
  rw [e]
theorem frst_e {α : Type} {f : Nat → Option α} {n : Nat} (h : frst f n 0 = frst f (n - n) n) : frst f n 0 = none := by
  rw [h, Nat.sub_self]
  rfl
def notin (f : Nat → Nat) : Nat → Nat → Bool
  | 0, _ => true
  | j + 1, x => notin f j x && decide (f j ≠ x)
theorem notin_iff {f : Nat → Nat} {x : Nat} : ∀ j, notin f j x = true ↔ ∀ i, i < j → f i ≠ x := by
  intro j
  induction j with
  | zero => exact ⟨fun _ i hi => absurd hi (Nat.not_lt_zero i), fun _ => rfl⟩
  | succ j ih =>
    show (notin f j x && decide (f j ≠ x)) = true ↔ _
    rw [Bool.and_eq_true, ih, decide_eq_true_eq]
    constructor
    · rintro ⟨h1, h2⟩ i hi
      by_cases e : i = j
      · rw [e]
        exact h2
      · exact h1 i (by omega)
    · intro h
      exact ⟨fun i hi => h i (by omega), h j (by omega)⟩
theorem notin_up {f : Nat → Nat} {p x j : Nat} : notin (up f j p) (j + 1) x = (notin f j x && decide (p ≠ x)) := by
  show (notin (up f j p) j x && decide (up f j p j ≠ x)) = _
  rw [up_self]
  congr 1
  have : ∀ m, m ≤ j → notin (up f j p) m x = notin f m x := by
    intro m
    induction m with
    | zero => intro _; rfl
    | succ m ih =>
      intro hm
      show (notin (up f j p) m x && decide (up f j p m ≠ x)) = (notin f m x && decide (f m ≠ x))
      rw [ih (by omega), up_ne _ _ (by omega)]
  exact this j (Nat.le_refl j)
section SPEC
variable (N s : Nat → Nat) (Qw Qp : Nat → Bool) (k : Nat)
def sP (rw' : Nat → Nat) : Nat → (Nat → Nat) → Option (Option (Nat → Nat))
  | 0, rp => match wgh N s k rw' rp with
    | none => some none
    | some true => some (some rp)
    | some false => none
  | r + 1, rp => frst (fun p => if (Qp p && notin rp (k - (r + 1)) p && decide (0 < s (6 * rw' ((k - r) % k) + p))) = true then sP rw' r (up rp (k - (r + 1)) p) else none) 6 0
def sW : Nat → (Nat → Nat) → Option (Option ((Nat → Nat) × (Nat → Nat)))
  | 0, rw' => match sP N s Qp k rw' k (fun _ => 0) with
    | none => none
    | some none => some none
    | some (some rp) => some (some (rw', rp))
  | r + 1, rw' => frst (fun w => if (Qw w && notin rw' (k - (r + 1)) w) = true then sW r (up rw' (k - (r + 1)) w) else none) 4 0
end SPEC
def fBi (N s : Nat → Nat) (Qw Qp : Nat → Bool) (i : Nat) : Option (Nat × Option ((Nat → Nat) × (Nat → Nat))) := match sW N s Qw Qp (i + 2) (i + 2) (fun _ => 0) with
  | none => none
  | some x => some (i + 2, x)
/-- the first ring that is better: its size, and it (none: beyond a long) -/
def fB (N s : Nat → Nat) (Qw Qp : Nat → Bool) : Option (Nat × Option ((Nat → Nat) × (Nat → Nat))) := frst (fBi N s Qw Qp) (min 4 (min (cQ Qw 4) (cQ Qp 6)) - 1) 0
theorem fBi_n {N s : Nat → Nat} {Qw Qp : Nat → Bool} {i : Nat} (h : sW N s Qw Qp (i + 2) (i + 2) (fun _ => 0) = none) : fBi N s Qw Qp i = none := by
  unfold fBi
  rw [h]
theorem fBi_s {N s : Nat → Nat} {Qw Qp : Nat → Bool} {i : Nat} {x : Option ((Nat → Nat) × (Nat → Nat))} (h : sW N s Qw Qp (i + 2) (i + 2) (fun _ => 0) = some x) : fBi N s Qw Qp i = some (i + 2, x) := by
  unfold fBi
  rw [h]
theorem B6_dn : ∀ b0 b1 b2 b3 b4 b5 : Bool, B6 b0 b1 b2 b3 b4 b5 &&& ((1 <<< (nI 0 &&& 31)) ^^^ (-1)) = B6 false b1 b2 b3 b4 b5 ∧ B6 b0 b1 b2 b3 b4 b5 &&& ((1 <<< (nI 1 &&& 31)) ^^^ (-1)) = B6 b0 false b2 b3 b4 b5 ∧ B6 b0 b1 b2 b3 b4 b5 &&& ((1 <<< (nI 2 &&& 31)) ^^^ (-1)) = B6 b0 b1 false b3 b4 b5 ∧ B6 b0 b1 b2 b3 b4 b5 &&& ((1 <<< (nI 3 &&& 31)) ^^^ (-1)) = B6 b0 b1 b2 false b4 b5 ∧ B6 b0 b1 b2 b3 b4 b5 &&& ((1 <<< (nI 4 &&& 31)) ^^^ (-1)) = B6 b0 b1 b2 b3 false b5 ∧ B6 b0 b1 b2 b3 b4 b5 &&& ((1 <<< (nI 5 &&& 31)) ^^^ (-1)) = B6 b0 b1 b2 b3 b4 false := by decide +kernel
theorem B4_dn : ∀ b0 b1 b2 b3 : Bool, B4 b0 b1 b2 b3 &&& ((1 <<< (nI 0 &&& 31)) ^^^ (-1)) = B4 false b1 b2 b3 ∧ B4 b0 b1 b2 b3 &&& ((1 <<< (nI 1 &&& 31)) ^^^ (-1)) = B4 b0 false b2 b3 ∧ B4 b0 b1 b2 b3 &&& ((1 <<< (nI 2 &&& 31)) ^^^ (-1)) = B4 b0 b1 false b3 ∧ B4 b0 b1 b2 b3 &&& ((1 <<< (nI 3 &&& 31)) ^^^ (-1)) = B4 b0 b1 b2 false := by decide +kernel
theorem bits6_dn {P Q : Nat → Bool} {p : Nat} (hp : p < 6) (h : ∀ x, x < 6 → Q x = (P x && decide (p ≠ x))) : bits6 P &&& ((1 <<< (nI p &&& 31)) ^^^ (-1)) = bits6 Q := by
  have q := B6_dn (P 0) (P 1) (P 2) (P 3) (P 4) (P 5)
  rw [bits6_eq, bits6_eq, h 0 (by decide), h 1 (by decide), h 2 (by decide), h 3 (by decide), h 4 (by decide), h 5 (by decide)]
  rcases (show p = 0 ∨ p = 1 ∨ p = 2 ∨ p = 3 ∨ p = 4 ∨ p = 5 by omega) with rfl | rfl | rfl | rfl | rfl | rfl
  · simpa using q.1
  · simpa using q.2.1
  · simpa using q.2.2.1
  · simpa using q.2.2.2.1
  · simpa using q.2.2.2.2.1
  · simpa using q.2.2.2.2.2
theorem bits4_dn {P Q : Nat → Bool} {p : Nat} (hp : p < 4) (h : ∀ x, x < 4 → Q x = (P x && decide (p ≠ x))) : bits4 P &&& ((1 <<< (nI p &&& 31)) ^^^ (-1)) = bits4 Q := by
  have q := B4_dn (P 0) (P 1) (P 2) (P 3)
  rw [bits4_eq, bits4_eq, h 0 (by decide), h 1 (by decide), h 2 (by decide), h 3 (by decide)]
  rcases (show p = 0 ∨ p = 1 ∨ p = 2 ∨ p = 3 by omega) with rfl | rfl | rfl | rfl
  · simpa using q.1
  · simpa using q.2.1
  · simpa using q.2.2.1
  · simpa using q.2.2.2
theorem bits6_congr {P Q : Nat → Bool} (h : ∀ x, x < 6 → P x = Q x) : bits6 P = bits6 Q := by
  rw [bits6_eq, bits6_eq, h 0 (by decide), h 1 (by decide), h 2 (by decide), h 3 (by decide), h 4 (by decide), h 5 (by decide)]
theorem bits4_congr {P Q : Nat → Bool} (h : ∀ x, x < 4 → P x = Q x) : bits4 P = bits4 Q := by
  rw [bits4_eq, bits4_eq, h 0 (by decide), h 1 (by decide), h 2 (by decide), h 3 (by decide)]
/-- what picking parties leaves -/
def Pfr (j : Nat) (h h' : Hp) : Prop := (∀ a, a ≠ 60 → a ≠ 61 → a ≠ 62 → h'.1 a = h.1 a) ∧ h'.2 = h.2 ∧ ∀ i, i < j → h'.1 60 i = h.1 60 i ∧ h'.1 61 i = h.1 61 i ∧ h'.1 62 i = h.1 62 i
theorem Pfr.refl {j : Nat} {h : Hp} : Pfr j h h := ⟨fun _ _ _ _ => rfl, rfl, fun _ _ => ⟨rfl, rfl, rfl⟩⟩
theorem Pfr.trans {j : Nat} {h h1 h2 : Hp} (a : Pfr j h h1) (b : Pfr j h1 h2) : Pfr j h h2 := ⟨fun x p q r => (b.1 x p q r).trans (a.1 x p q r), b.2.1.trans a.2.1, fun i hi => ⟨(b.2.2 i hi).1.trans (a.2.2 i hi).1, (b.2.2 i hi).2.1.trans (a.2.2 i hi).2.1, (b.2.2 i hi).2.2.trans (a.2.2 i hi).2.2⟩⟩
theorem Pfr.mono {j j' : Nat} {h h1 : Hp} (a : Pfr j h h1) (hj : j' ≤ j) : Pfr j' h h1 := ⟨a.1, a.2.1, fun i hi => a.2.2 i (by omega)⟩
theorem Rg.p {N s : Nat → Nat} {h h' : Hp} {j : Nat} (g : Rg N s h) (f : Pfr j h h') : Rg N s h' := by
  unfold Rg
  rw [f.2.1, f.1 63 (by decide) (by decide) (by decide), f.1 64 (by decide) (by decide) (by decide)]
  exact g
theorem Rk.p {k j : Nat} {rw' rp : Nat → Nat} {h h' : Hp} (r : Rk k rw' rp j h) (f : Pfr j h h') : Rk k rw' rp j h' := by
  obtain ⟨r1, r2, r3⟩ := r
  refine ⟨by rw [f.1 58 (by decide) (by decide) (by decide)]; exact r1, fun i hi => by rw [f.1 59 (by decide) (by decide) (by decide)]; exact r2 i hi, fun i hi => ?_⟩
  rw [(f.2.2 i hi).1, (f.2.2 i hi).2.1, (f.2.2 i hi).2.2]
  exact r3 i hi
def rs8 (k : Nat) (rw' : Nat → Nat) (o : Option (Option (Nat → Nat))) (b : Int32 × Hp) : Prop := match o with
  | none => b.1 = 0
  | some none => b.1 = -6
  | some (some rp) => b.1 = 1 ∧ Rk k rw' rp k b.2
theorem pickP8 {N s : Nat → Nat} (v : Vn N) {Qp : Nat → Bool} {k : Nat} (hk0 : 0 < k) (hk : k ≤ 4) {rw' : Nat → Nat} (bs : ∀ c, c < 24 → s c ≤ 260) : ∀ r n rp h, r < n → r ≤ k → Rg N s h → Rk k rw' rp (k - r) h → Rb s k rw' rp (k - r) → ∃ b, f_X4_pickParty n 58 (nI (k - r)) (bits6 (fun p => Qp p && notin rp (k - r) p)) h = some b ∧ Pfr (k - r) h b.2 ∧ rs8 k rw' (sP N s Qp k rw' r rp) b := by
  intro r
  induction r with
  | zero =>
    intro n rp h hn hr g rk rb
    obtain ⟨n, rfl⟩ : ∃ m, n = m + 1 := ⟨n - 1, by omega⟩
    rw [Nat.sub_zero] at rk rb ⊢
    show ∃ b, f_X4_pickParty_0 (f_X4_pickParty n) 58 (nI k) _ h = some b ∧ _
    unfold f_X4_pickParty_0 f_X4_pickParty_13
    rw [rk.1, if_pos (nI_le (Nat.le_refl k) (by omega)), weigh8 v g hk0 hk rk rb bs]
    refine ⟨_, rfl, Pfr.refl, ?_⟩
    unfold rs8 sP
    cases hw : wgh N s k rw' rp with
    | none => rfl
    | some x =>
      cases x with
      | true => exact ⟨rfl, rk⟩
      | false => rfl
  | succ r ih =>
    intro n rp h hn hr g rk rb
    obtain ⟨n, rfl⟩ : ∃ m, n = m + 1 := ⟨n - 1, by omega⟩
    have hj : k - (r + 1) < k := by omega
    have hj1 : k - (r + 1) + 1 = k - r := by omega
    generalize hjj : k - (r + 1) = j at rk rb hj hj1
    have hlw : (k - r) % k < k := Nat.mod_lt _ hk0
    -- the loop
    have loop : ∃ b, lp (F := Nat → Int32 → Int32 → Int32 → Int32 → Hp → Option (Int32 × Hp)) (fun _ _ _ _ _ _ => none) (f_X4_pickParty_62 (f_X4_pickParty n)) 1000 58 (nI j) (bits6 (fun p => Qp p && notin rp j p)) (nI (rw' ((k - r) % k))) 0 h = some b ∧ (Pfr j h b.2 ∧ rs8 k rw' (sP N s Qp k rw' (r + 1) rp) b) := by
      have eS : sP N s Qp k rw' (r + 1) rp = frst (fun p => if (Qp p && notin rp j p && decide (0 < s (6 * rw' ((k - r) % k) + p))) = true then sP N s Qp k rw' r (up rp j p) else none) 6 0 := by
        rw [← hjj]
        rfl
      rw [eS]
      refine lp_invE (F := Nat → Int32 → Int32 → Int32 → Int32 → Hp → Option (Int32 × Hp)) (bot := fun _ _ _ _ _ _ => none) (G := f_X4_pickParty_62 (f_X4_pickParty n)) (fun K i (h : Hp) => K 58 (nI j) (bits6 (fun p => Qp p && notin rp j p)) (nI (rw' ((k - r) % k))) (nI i) h) 6 (fun i h' => Pfr j h h' ∧ frst (fun p => if (Qp p && notin rp j p && decide (0 < s (6 * rw' ((k - r) % k) + p))) = true then sP N s Qp k rw' r (up rp j p) else none) 6 0 = frst (fun p => if (Qp p && notin rp j p && decide (0 < s (6 * rw' ((k - r) % k) + p))) = true then sP N s Qp k rw' r (up rp j p) else none) (6 - i) i) _ ?_ ?_ 1000 0 h (by omega) (by omega) ⟨Pfr.refl, rfl⟩
      · rintro K p h1 hp ⟨c1, c2⟩
        have g1 := g.p c1
        have rk1 := rk.p c1
        have hlb := rb.1 _ hlw
        have l24 : 6 * rw' ((k - r) % k) + p < 24 := by omega
        have hwj := rb.1 j hj
        show (∃ s', _ ∧ f_X4_pickParty_62 (f_X4_pickParty n) K 58 (nI j) (bits6 (fun p => Qp p && notin rp j p)) (nI (rw' ((k - r) % k))) (nI p) h1 = _) ∨ ∃ b, f_X4_pickParty_62 (f_X4_pickParty n) K 58 (nI j) (bits6 (fun p => Qp p && notin rp j p)) (nI (rw' ((k - r) % k))) (nI p) h1 = some b ∧ _
        unfold f_X4_pickParty_62 f_X4_pickParty_159
        rw [if_neg (ge6 hp), holds6 _ hp]
        simp only [Option.bind_some]
        by_cases hq : (Qp p && notin rp j p) = true
        · rw [if_pos hq, if_neg one_ne, cell8]
          simp only [Option.bind_some]
          rw [show rw' ((k - r) % k) * 6 + p = 6 * rw' ((k - r) % k) + p by omega, if_pos (ix24 l24), nI_clamp (by omega), show h1.1 (58 + 5) (6 * rw' ((k - r) % k) + p) = _ from (g1.1 _ l24).1]
          have bsl := bs _ l24
          by_cases hs : 0 < s (6 * rw' ((k - r) % k) + p)
          · have hf : (Qp p && notin rp j p && decide (0 < s (6 * rw' ((k - r) % k) + p))) = true := by rw [hq, decide_eq_true hs]; rfl
            have e59 : (sI h1 (58 + 2) j (nI p)).1 (58 + 1) j = nI (rw' j) := by rw [sI_row _ _ _ (by decide)]; exact rk1.2.1 j hj
            rw [if_neg (nI_ne0 hs (by omega))]
            simp only [ix4 (show j < 4 by omega), if_true, nI_clamp (show j < 2 ^ 31 by omega), lt, e59, cell8, Option.bind_some, nI_1]
            rw [bits6_dn (Q := fun x => Qp x && notin (up rp j p) (j + 1) x) hp (fun x hx => by rw [notin_up, Bool.and_assoc])]
            have eg : rw' j * 6 + p = gC rw' (up rp j p) j := by unfold gC; rw [up_self]; omega
            have el : rw' ((k - r) % k) * 6 + p = lC k rw' (up rp j p) j := by unfold lC; rw [up_self, hj1]; omega
            rw [eg, el, hj1]
            have c3 : Pfr j h1 (sI (sI (sI h1 (58 + 2) j (nI p)) (58 + 3) j (nI (gC rw' (up rp j p) j))) (58 + 4) j (nI (lC k rw' (up rp j p) j))) := ⟨fun a h6 h7 h8 => by rw [sI_row _ _ _ h8, sI_row _ _ _ h7, sI_row _ _ _ h6], rfl, fun i hi => by
              refine ⟨?_, ?_, ?_⟩
              · rw [sI_row _ _ _ (by decide), sI_row _ _ _ (by decide), sI1, if_pos rfl, if_neg (by omega)]
              · rw [sI_row _ _ _ (by decide), sI1, if_pos rfl, if_neg (by omega), sI_row _ _ _ (by decide)]
              · rw [sI1, if_pos rfl, if_neg (by omega), sI_row _ _ _ (by decide), sI_row _ _ _ (by decide)]⟩
            have rk2 : Rk k rw' (up rp j p) (k - r) (sI (sI (sI h1 (58 + 2) j (nI p)) (58 + 3) j (nI (gC rw' (up rp j p) j))) (58 + 4) j (nI (lC k rw' (up rp j p) j))) := by
              have q := rk1.p c3
              refine ⟨q.1, q.2.1, fun i hi => ?_⟩
              by_cases ei : i = j
              · subst ei
                rw [up_self]
                refine ⟨?_, ?_, ?_⟩
                · rw [sI_row _ _ _ (by decide), sI_row _ _ _ (by decide), sI1, if_pos rfl, if_pos rfl]
                · rw [sI_row _ _ _ (by decide), sI1, if_pos rfl, if_pos rfl]
                · rw [sI1, if_pos rfl, if_pos rfl]
              · have := q.2.2 i (by omega)
                unfold gC lC at this ⊢
                rw [up_ne _ _ ei]
                exact this
            have rb2 : Rb s k rw' (up rp j p) (k - r) := ⟨rb.1, fun i hi => by
              by_cases ei : i = j
              · rw [ei, up_self]
                exact hp
              · rw [up_ne _ _ ei]
                exact rb.2.1 i (by omega), fun i hi => by
              by_cases ei : i = j
              · rw [ei]
                unfold lC
                rw [up_self, hj1]
                exact hs
              · have := rb.2.2 i (by omega)
                unfold lC at this ⊢
                rw [up_ne _ _ ei]
                exact this⟩
            obtain ⟨b, e1, f1, q1⟩ := ih n (up rp j p) _ (by omega) (by omega) (g1.p c3) rk2 rb2
            rw [e1]
            simp only [Option.bind_some]
            have ft : Pfr j h b.2 := c1.trans (c3.trans (f1.mono (by omega)))
            cases ho : sP N s Qp k rw' r (up rp j p) with
            | none =>
              left
              rw [ho] at q1
              rw [if_pos (show b.1 = 0 from q1)]
              exact ⟨b.2, ⟨ft, frst_n hp c2 (by rw [if_pos hf]; exact ho)⟩, rfl⟩
            | some x =>
              right
              rw [ho] at q1
              have nz : ¬ b.1 = 0 := by
                cases x with
                | none =>
                  have : b.1 = -6 := q1
                  rw [this]
                  decide
                | some y =>
                  have : b.1 = 1 := q1.1
                  rw [this]
                  decide
              rw [if_neg nz]
              exact ⟨b, rfl, ft, by rw [frst_s hp c2 (by rw [if_pos hf]; exact ho)]; exact q1⟩
          · left
            rw [if_pos (by rw [show s (6 * rw' ((k - r) % k) + p) = 0 by omega]; rfl)]
            simp only [lt, nI_1]
            exact ⟨h1, ⟨c1, frst_n hp c2 (if_neg (by rw [decide_eq_false hs, Bool.and_false]; decide))⟩, rfl⟩
        · left
          rw [if_neg hq, if_pos rfl]
          simp only [lt, nI_1]
          exact ⟨h1, ⟨c1, frst_n hp c2 (if_neg (fun z => hq (by rw [Bool.and_eq_true] at z; exact z.1)))⟩, rfl⟩
      · rintro K h1 ⟨c1, c2⟩
        show ∃ b, f_X4_pickParty_62 (f_X4_pickParty n) K 58 (nI j) _ _ (nI 6) h1 = some b ∧ _
        unfold f_X4_pickParty_62
        rw [if_pos (show (6 : Int32) ≤ nI 6 by decide)]
        refine ⟨_, rfl, c1, ?_⟩
        rw [frst_e c2]
        rfl
    show ∃ b, f_X4_pickParty_0 (f_X4_pickParty n) 58 (nI j) _ h = some b ∧ _
    unfold f_X4_pickParty_0 f_X4_pickParty_35 f_X4_pickParty_40 f_X4_pickParty_56
    rw [rk.1, if_neg (nI_ge hj (by omega)), if_pos (show nI j < 4 from nI_lt (b := 4) (by omega) (by decide)), nI_1]
    have e59 : ∀ i, i < k → (58 + 1 = 59) → h.1 (58 + 1) i = nI (rw' i) := fun i hi _ => rk.2.1 i hi
    by_cases hl : k ≤ j + 1
    · rw [if_pos (nI_le hl (by omega)), if_neg one_ne, if_pos (by decide)]
      have em : (k - r) % k = 0 := by rw [show k - r = k by omega, Nat.mod_self]
      simp only [lt]
      rw [show h.1 (58 + 1) (Int32.toNatClampNeg 0) = nI (rw' ((k - r) % k)) by rw [em]; exact rk.2.1 0 hk0]
      exact loop
    · rw [if_neg (nI_ge (by omega) (by omega)), if_pos (show nI (j + 1) < 4 from nI_lt (b := 4) (by omega) (by decide)), if_pos rfl, if_pos (ix4 (by omega))]
      have em : (k - r) % k = j + 1 := by rw [← hj1]; exact Nat.mod_eq_of_lt (by omega)
      simp only [lt]
      rw [nI_clamp (by omega), show h.1 (58 + 1) (j + 1) = nI (rw' ((k - r) % k)) by rw [em]; exact rk.2.1 _ (by omega)]
      exact loop
