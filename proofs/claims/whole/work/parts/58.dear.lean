/-- a fold from 0 up -/
def fu {σ : Type} (st : Nat → σ → σ) : Nat → σ → σ
  | 0, s => s
  | i + 1, s => st i (fu st i s)
/-- a loop from i to n with an invariant -/
theorem lp_inv {F β σ : Type} {bot : F} {G : F → F} (ap : F → Nat → σ → Option β) (n : Nat) (I : Nat → σ → Prop) (Q : β → Prop) (hs : ∀ K i s, i < n → I i s → ∃ s', I (i + 1) s' ∧ ap (G K) i s = ap K (i + 1) s') (he : ∀ K s, I n s → ∃ b, ap (G K) n s = some b ∧ Q b) : ∀ (m i : Nat) (s : σ), i ≤ n → n < i + m → I i s → ∃ b, ap (lp bot G m) i s = some b ∧ Q b := by
  intro m
  induction m with
  | zero => intro i s h1 h2; omega
  | succ m ih =>
    intro i s h1 h2 h3
    show ∃ b, ap (G (lp bot G m)) i s = some b ∧ Q b
    by_cases h : i = n
    · subst h
      exact he _ s h3
    · obtain ⟨s', q1, q2⟩ := hs (lp bot G m) i s (by omega) h3
      rw [q2]
      exact ih (i + 1) s' (by omega) (by omega) q1
theorem sL1 (h : Hp) (a i : Nat) (v : Int64) : (sL h a i v).1 = h.1 := rfl
theorem sL2 (h : Hp) (a i : Nat) (v : Int64) (b j : Nat) : (sL h a i v).2 b j = if b = a then (if j = i then v else h.2 b j) else h.2 b j := by
  unfold sL rL
  dsimp only
  by_cases e : b = a
  · subst e
    rw [if_pos rfl, if_pos rfl]
    rfl
  · rw [if_neg e, if_neg e]
theorem sI_same (h : Hp) (a i : Nat) : sI h a i (h.1 a i) = h := by
  refine Prod.ext (funext fun b => funext fun j => ?_) rfl
  rw [sI1]
  by_cases e : b = a
  · subst e
    rw [if_pos rfl]
    by_cases f : j = i
    · rw [if_pos f, f]
    · rw [if_neg f]
  · rw [if_neg e]
theorem sI_sI (h : Hp) (a i : Nat) (v w : Int32) : sI (sI h a i v) a i w = sI h a i w := by
  refine Prod.ext (funext fun b => funext fun j => ?_) rfl
  rw [sI1, sI1, sI1]
  by_cases e : b = a
  · subst e
    rw [if_pos rfl, if_pos rfl, if_pos rfl]
    by_cases f : j = i
    · rw [if_pos f, if_pos f]
    · rw [if_neg f, if_neg f, if_neg f]
  · rw [if_neg e, if_neg e, if_neg e]
/-! prices are ordered -/
/-- the price a / b is dearer than c / d -/
def dr (a b c d : Nat) : Prop := (b = 0 ∧ d = 0 ∧ c < a) ∨ (b = 0 ∧ d ≠ 0) ∨ (b ≠ 0 ∧ d ≠ 0 ∧ c * b < a * d)
theorem sgn_cases (a b : Nat) : (sgn a b = 1 ↔ b < a) ∧ (sgn a b = 0 ↔ a = b) ∧ (sgn a b ≤ 0 ↔ ¬ b < a) := by
  unfold sgn
  rcases Nat.lt_trichotomy a b with h | h | h
  · rw [if_pos h]
    refine ⟨⟨fun z => absurd z (by decide), fun z => by omega⟩, ⟨fun z => absurd z (by decide), fun z => by omega⟩, ⟨fun _ => by omega, fun _ => by decide⟩⟩
  · rw [if_neg (by omega), if_pos h]
    refine ⟨⟨fun z => absurd z (by decide), fun z => by omega⟩, ⟨fun _ => h, fun _ => rfl⟩, ⟨fun _ => by omega, fun _ => by decide⟩⟩
  · rw [if_neg (by omega), if_neg (by omega)]
    refine ⟨⟨fun _ => h, fun _ => rfl⟩, ⟨fun z => absurd z (by decide), fun z => by omega⟩, ⟨fun z => absurd z (by decide), fun z => absurd h z⟩⟩
theorem cmpS_dr (a b c d : Nat) : (cmpS a b c d ≤ 0 ↔ ¬ dr a b c d) ∧ (cmpS a b c d = 0 → ¬ dr c d a b) ∧ (cmpS a b c d = 0 ↔ (¬ dr a b c d ∧ ¬ dr c d a b)) := by
  unfold cmpS dr
  by_cases hb : b = 0
  · by_cases hd : d = 0
    · rw [if_pos hb, if_pos hd]
      have q := sgn_cases a c
      refine ⟨q.2.2.trans (by constructor <;> intro h <;> omega), fun z => ?_, ?_⟩
      · have := q.2.1.mp z
        omega
      · rw [q.2.1]
        omega
    · rw [if_pos hb, if_neg hd]
      refine ⟨⟨fun z => absurd z (by decide), fun z => absurd (Or.inr (Or.inl ⟨hb, hd⟩)) z⟩, fun z => absurd z (by decide), ⟨fun z => absurd z (by decide), fun z => absurd (Or.inr (Or.inl ⟨hb, hd⟩)) z.1⟩⟩
  · by_cases hd : d = 0
    · rw [if_neg hb, if_pos hd]
      refine ⟨⟨fun _ => by omega, fun _ => by decide⟩, fun z => absurd z (by decide), ⟨fun z => absurd z (by decide), fun z => absurd (Or.inr (Or.inl ⟨hd, hb⟩)) z.2⟩⟩
    · rw [if_neg hb, if_neg hd]
      have q := sgn_cases (a * d) (c * b)
      refine ⟨q.2.2.trans ?_, fun z => ?_, q.2.1.trans ?_⟩
      · constructor <;> intro h <;> omega
      · have := q.2.1.mp z
        omega
      · omega
/-- who is dearer than one is dearer than any other, or the other is dearer than that one -/
theorem dr_nt {a b c d e f : Nat} (h : dr a b c d) : dr a b e f ∨ dr e f c d := by
  unfold dr at *
  by_cases hf : f = 0
  · rcases h with ⟨h1, h2, h3⟩ | ⟨h1, h2⟩ | ⟨h1, h2, h3⟩
    · omega
    · omega
    · omega
  · rcases h with ⟨h1, h2, h3⟩ | ⟨h1, h2⟩ | ⟨h1, h2, h3⟩
    · omega
    · omega
    · by_cases q : e * b < a * f
      · exact Or.inl (Or.inr (Or.inr ⟨h1, hf, q⟩))
      · by_cases r : c * f < e * d
        · exact Or.inr (Or.inr (Or.inr ⟨hf, h2, r⟩))
        · exfalso
          have s1 : e * d * b ≤ c * f * b := Nat.mul_le_mul_right b (by omega)
          have s2 : a * f * d ≤ e * b * d := Nat.mul_le_mul_right d (by omega)
          have s3 : a * d * f ≤ c * b * f := by
            calc a * d * f = a * f * d := by rw [Nat.mul_right_comm]
              _ ≤ e * b * d := s2
              _ = e * d * b := by rw [Nat.mul_right_comm]
              _ ≤ c * f * b := s1
              _ = c * b * f := by rw [Nat.mul_right_comm]
          have s4 := Nat.le_of_mul_le_mul_right s3 (by omega)
          omega
/-! the dearest, and who is as good -/
def bstS (P : Nat → Bool) (C : Nat → Nat → Int32) (k : Nat) (b : Option Nat) : Option Nat :=
  if P k = true then (match b with
    | none => some k
    | some j => if C k j ≤ 0 then some j else some k) else b
def tieS (P : Nat → Bool) (C : Nat → Nat → Int32) (k : Nat) (s : Option Nat × Int32) : Option Nat × Int32 :=
  if P k = true then (match s.1 with
    | none => (some k, 0)
    | some j => if C k j ≤ 0 then (if C k j = 0 then (some j, s.2 ||| (1 <<< (nI k &&& 31))) else (some j, s.2)) else (some k, 0)) else s
theorem tie_bst (P : Nat → Bool) (C : Nat → Nat → Int32) (x : Int32) : ∀ i, (fu (tieS P C) i (none, x)).1 = fu (bstS P C) i none := by
  intro i
  induction i with
  | zero => rfl
  | succ i ih =>
    show (tieS P C i (fu (tieS P C) i (none, x))).1 = bstS P C i (fu (bstS P C) i none)
    rw [← ih]
    generalize fu (tieS P C) i (none, x) = s
    obtain ⟨b, y⟩ := s
    unfold tieS bstS
    by_cases hp : P i = true
    · rw [if_pos hp, if_pos hp]
      cases b with
      | none => rfl
      | some j =>
        dsimp only
        by_cases h1 : C i j ≤ 0
        · rw [if_pos h1, if_pos h1]
          by_cases h2 : C i j = 0
          · rw [if_pos h2]
          · rw [if_neg h2]
        · rw [if_neg h1, if_neg h1]
    · rw [if_neg hp, if_neg hp]
theorem bst_some {P : Nat → Bool} {C : Nat → Nat → Int32} : ∀ {i j}, fu (bstS P C) i none = some j → j < i ∧ P j = true := by
  intro i
  induction i with
  | zero => intro j h; cases h
  | succ i ih =>
    intro j h
    have h : bstS P C i (fu (bstS P C) i none) = some j := h
    generalize e : fu (bstS P C) i none = bb at h ih
    unfold bstS at h
    by_cases hp : P i = true
    · rw [if_pos hp] at h
      cases bb with
      | none =>
        cases h
        exact ⟨by omega, hp⟩
      | some m =>
        dsimp only at h
        have := ih rfl
        by_cases h1 : C i m ≤ 0
        · rw [if_pos h1] at h
          cases h
          exact ⟨by omega, this.2⟩
        · rw [if_neg h1] at h
          cases h
          exact ⟨by omega, hp⟩
    · rw [if_neg hp] at h
      have := ih h
      exact ⟨by omega, this.2⟩
theorem bst_none {P : Nat → Bool} {C : Nat → Nat → Int32} : ∀ {i}, fu (bstS P C) i none = none → ∀ k, k < i → P k = false := by
  intro i
  induction i with
  | zero => intro h k hk; omega
  | succ i ih =>
    intro h k hk
    have h : bstS P C i (fu (bstS P C) i none) = none := h
    generalize e : fu (bstS P C) i none = bb at h ih
    unfold bstS at h
    by_cases hp : P i = true
    · rw [if_pos hp] at h
      exfalso
      cases bb with
      | none => cases h
      | some m =>
        dsimp only at h
        by_cases h1 : C i m ≤ 0
        · rw [if_pos h1] at h
          cases h
        · rw [if_neg h1] at h
          cases h
    · rw [if_neg hp] at h
      by_cases e : k = i
      · subst e
        simpa using hp
      · exact ih h k (by omega)
/-- who is as good as j -/
def tieQ (P : Nat → Bool) (C : Nat → Nat → Int32) (j k : Nat) : Bool := decide (k ≠ j) && P k && decide (C k j = 0)
theorem bitS_f {Q : Nat → Bool} {i : Nat} (x : Int32) (h : ¬ Q i = true) : bitS Q i x = x := if_neg h
theorem bitS_t {Q : Nat → Bool} {i : Nat} (x : Int32) (h : Q i = true) : bitS Q i x = x ||| (1 <<< (nI i &&& 31)) := if_pos h
theorem bitS_none {Q : Nat → Bool} : ∀ i, (∀ k, k < i → Q k = false) → fu (bitS Q) i 0 = 0 := by
  intro i
  induction i with
  | zero => intro _; rfl
  | succ i ih =>
    intro h
    show bitS Q i (fu (bitS Q) i 0) = 0
    rw [bitS_f _ (by rw [h i (by omega)]; decide), ih (fun k hk => h k (by omega))]
/-- a comparison of prices -/
def CP (C : Nat → Nat → Int32) : Prop := ∃ a b : Nat → Nat, ∀ k j, C k j = cmpS (a k) (b k) (a j) (b j)
theorem tie_eq {P : Nat → Bool} {C : Nat → Nat → Int32} (hC : CP C) (x : Int32) : ∀ i j, (fu (tieS P C) i (none, x)).1 = some j → (fu (tieS P C) i (none, x)).2 = fu (bitS (tieQ P C j)) i 0 ∧ ∀ k, k < i → P k = true → C k j ≤ 0 := by
  obtain ⟨a, b, hC⟩ := hC
  intro i
  induction i with
  | zero => intro j h; cases h
  | succ i ih =>
    intro j h
    have hb := tie_bst P C x i
    have h : (tieS P C i (fu (tieS P C) i (none, x))).1 = some j := h
    show (tieS P C i (fu (tieS P C) i (none, x))).2 = bitS (tieQ P C j) i (fu (bitS (tieQ P C j)) i 0) ∧ _
    cases e : fu (tieS P C) i (none, x) with
    | mk bb y =>
    rw [e] at h ih hb
    dsimp only at hb ih
    unfold tieS at h ⊢
    by_cases hp : P i = true
    · rw [if_pos hp] at h ⊢
      cases bb with
      | none =>
        dsimp only at h ⊢
        cases h
        have z := bst_none hb.symm
        have z2 : ∀ k, k < i → tieQ P C i k = false := fun k hk => by
          unfold tieQ
          simp [z k hk]
        refine ⟨?_, fun k hk hpk => ?_⟩
        · rw [bitS_f _ (by unfold tieQ; simp), bitS_none i z2]
        · by_cases ek : k = i
          · subst ek
            rw [hC, (cmpS_dr _ _ _ _).1]
            intro z
            unfold dr at z
            omega
          · exact absurd hpk (by rw [z k (by omega)]; decide)
      | some m =>
        dsimp only at h ⊢
        have hm := (bst_some hb.symm).1
        obtain ⟨q1, q2⟩ := ih m rfl
        by_cases h1 : C i m ≤ 0
        · rw [if_pos h1] at h ⊢
          by_cases h2 : C i m = 0
          · rw [if_pos h2] at h ⊢
            cases h
            refine ⟨?_, fun k hk hpk => ?_⟩
            · rw [bitS_t _ (by unfold tieQ; simp [hp, h2]; omega)]
              exact congrArg (· ||| (1 <<< (nI i &&& 31))) q1
            · by_cases ek : k = i
              · rw [ek]
                exact h1
              · exact q2 k (by omega) hpk
          · rw [if_neg h2] at h ⊢
            cases h
            refine ⟨?_, fun k hk hpk => ?_⟩
            · rw [bitS_f _ (by unfold tieQ; simp [h2])]
              exact q1
            · by_cases ek : k = i
              · rw [ek]
                exact h1
              · exact q2 k (by omega) hpk
        · rw [if_neg h1] at h ⊢
          cases h
          have hd : dr (a i) (b i) (a m) (b m) := by
            rw [hC, (cmpS_dr _ _ _ _).1] at h1
            exact Classical.not_not.mp h1
          have hk2 : ∀ k, k < i → P k = true → dr (a i) (b i) (a k) (b k) := fun k hk hpk => by
            have q3 := q2 k hk hpk
            rw [hC, (cmpS_dr _ _ _ _).1] at q3
            exact (dr_nt hd).resolve_right q3
          have z2 : ∀ k, k < i → tieQ P C i k = false := fun k hk => by
            unfold tieQ
            by_cases hpk : P k = true
            · have : ¬ C k i = 0 := fun z => by
                rw [hC] at z
                exact (cmpS_dr _ _ _ _).2.1 z (hk2 k hk hpk)
              simp [this]
            · simp [hpk]
          refine ⟨?_, fun k hk hpk => ?_⟩
          · rw [bitS_f _ (by unfold tieQ; simp), bitS_none i z2]
          · by_cases ek : k = i
            · subst ek
              rw [hC, (cmpS_dr _ _ _ _).1]
              intro z
              unfold dr at z
              omega
            · have q4 := hk2 k (by omega) hpk
              rw [hC, (cmpS_dr _ _ _ _).1]
              intro q5
              unfold dr at q4 q5
              omega
    · rw [if_neg hp] at h ⊢
      dsimp only at h
      obtain ⟨q1, q2⟩ := ih j h
      refine ⟨?_, fun k hk hpk => ?_⟩
      · rw [bitS_f _ (by unfold tieQ; simp [hp])]
        exact q1
      · by_cases ek : k = i
        · rw [ek] at hpk
          exact absurd hpk hp
        · exact q2 k (by omega) hpk
