/-- a loop with an invariant, that may be left early -/
theorem lp_invE {F β σ : Type} {bot : F} {G : F → F} (ap : F → Nat → σ → Option β) (n : Nat) (I : Nat → σ → Prop) (Q : β → Prop) (hs : ∀ K i s, i < n → I i s → (∃ s', I (i + 1) s' ∧ ap (G K) i s = ap K (i + 1) s') ∨ ∃ b, ap (G K) i s = some b ∧ Q b) (he : ∀ K s, I n s → ∃ b, ap (G K) n s = some b ∧ Q b) : ∀ (m i : Nat) (s : σ), i ≤ n → n < i + m → I i s → ∃ b, ap (lp bot G m) i s = some b ∧ Q b := by
  intro m
  induction m with
  | zero => intro i s h1 h2; omega
  | succ m ih =>
    intro i s h1 h2 h3
    show ∃ b, ap (G (lp bot G m)) i s = some b ∧ Q b
    by_cases h : i = n
    · subst h
      exact he _ s h3
    · rcases hs (lp bot G m) i s (by omega) h3 with ⟨s', q1, q2⟩ | q
      · rw [q2]
        exact ih (i + 1) s' (by omega) (by omega) q1
      · exact q
/-- a loop with an invariant, that goes on behind -/
theorem lp_invK {F R σ : Type} {bot : F} {G : F → F} (ap : F → Nat → σ → R) (n : Nat) (I : Nat → σ → Prop) (e : σ → R) (hs : ∀ K i s, i < n → I i s → ∃ s', I (i + 1) s' ∧ ap (G K) i s = ap K (i + 1) s') (he : ∀ K s, I n s → ap (G K) n s = e s) : ∀ (m i : Nat) (s : σ), i ≤ n → n < i + m → I i s → ∃ s', I n s' ∧ ap (lp bot G m) i s = e s' := by
  intro m
  induction m with
  | zero => intro i s h1 h2; omega
  | succ m ih =>
    intro i s h1 h2 h3
    show ∃ s', I n s' ∧ ap (G (lp bot G m)) i s = e s'
    by_cases h : i = n
    · subst h
      exact ⟨s, h3, he _ s h3⟩
    · obtain ⟨s', q1, q2⟩ := hs (lp bot G m) i s (by omega) h3
      rw [q2]
      exact ih (i + 1) s' (by omega) (by omega) q1
def upB (P : Nat → Bool) (k : Nat) : Nat → Bool := fun i => if i = k then true else P i
theorem B6_up : ∀ b0 b1 b2 b3 b4 b5 : Bool, B6 b0 b1 b2 b3 b4 b5 ||| (1 <<< (nI 0 &&& 31)) = B6 true b1 b2 b3 b4 b5 ∧ B6 b0 b1 b2 b3 b4 b5 ||| (1 <<< (nI 1 &&& 31)) = B6 b0 true b2 b3 b4 b5 ∧ B6 b0 b1 b2 b3 b4 b5 ||| (1 <<< (nI 2 &&& 31)) = B6 b0 b1 true b3 b4 b5 ∧ B6 b0 b1 b2 b3 b4 b5 ||| (1 <<< (nI 3 &&& 31)) = B6 b0 b1 b2 true b4 b5 ∧ B6 b0 b1 b2 b3 b4 b5 ||| (1 <<< (nI 4 &&& 31)) = B6 b0 b1 b2 b3 true b5 ∧ B6 b0 b1 b2 b3 b4 b5 ||| (1 <<< (nI 5 &&& 31)) = B6 b0 b1 b2 b3 b4 true := by decide +kernel
theorem bits6_up (P : Nat → Bool) {k : Nat} (hk : k < 6) : bits6 P ||| (1 <<< (nI k &&& 31)) = bits6 (upB P k) := by
  have q := B6_up (P 0) (P 1) (P 2) (P 3) (P 4) (P 5)
  rw [bits6_eq, bits6_eq]
  rcases (show k = 0 ∨ k = 1 ∨ k = 2 ∨ k = 3 ∨ k = 4 ∨ k = 5 by omega) with rfl | rfl | rfl | rfl | rfl | rfl
  · exact q.1
  · exact q.2.1
  · exact q.2.2.1
  · exact q.2.2.2.1
  · exact q.2.2.2.2.1
  · exact q.2.2.2.2.2
theorem B6_zero : ∀ b0 b1 b2 b3 b4 b5 : Bool, B6 b0 b1 b2 b3 b4 b5 = 0 ↔ ¬ (b0 || b1 || b2 || b3 || b4 || b5) = true := by decide +kernel
theorem bits6_zero (P : Nat → Bool) : bits6 P = 0 ↔ ¬ anyP P = true := by
  rw [bits6_eq]
  exact B6_zero (P 0) (P 1) (P 2) (P 3) (P 4) (P 5)
/-! entering -/
def ES : Type := (Nat → Bool) × (Nat → Nat) × (Nat → Nat)
def ent (S : Nat → Bool) (T V L : Nat → Nat) (i : Nat) (s : ES) : ES := if S i = true then (upB s.1 (T i), up s.2.1 (T i) (s.2.1 (T i) + V i), up s.2.2 (T i) (s.2.2 (T i) + L i)) else s
def ents (S : Nat → Bool) (T V L : Nat → Nat) (n : Nat) : ES := fu (ent S T V L) n (fun _ => false, fun _ => 0, fun _ => 0)
theorem ents_t {S : Nat → Bool} {T V L : Nat → Nat} {i : Nat} (h : S i = true) : ents S T V L (i + 1) = (upB (ents S T V L i).1 (T i), up (ents S T V L i).2.1 (T i) ((ents S T V L i).2.1 (T i) + V i), up (ents S T V L i).2.2 (T i) ((ents S T V L i).2.2 (T i) + L i)) := by
  show ent S T V L i (ents S T V L i) = _
  exact if_pos h
theorem ents_f {S : Nat → Bool} {T V L : Nat → Nat} {i : Nat} (h : ¬ S i = true) : ents S T V L (i + 1) = ents S T V L i := by
  show ent S T V L i (ents S T V L i) = _
  exact if_neg h
theorem ents_P {S : Nat → Bool} {T V L : Nat → Nat} {k : Nat} : ∀ n, (ents S T V L n).1 k = true ↔ ∃ i, i < n ∧ S i = true ∧ T i = k := by
  intro n
  induction n with
  | zero => exact ⟨fun h => absurd (show false = true from h) (by decide), fun ⟨i, h, _⟩ => absurd h (Nat.not_lt_zero i)⟩
  | succ n ih =>
    by_cases hS : S n = true
    · rw [ents_t hS]
      show upB (ents S T V L n).1 (T n) k = true ↔ _
      unfold upB
      by_cases e : k = T n
      · rw [if_pos e]
        exact ⟨fun _ => ⟨n, by omega, hS, e.symm⟩, fun _ => rfl⟩
      · rw [if_neg e, ih]
        constructor
        · rintro ⟨i, h1, h2, h3⟩
          exact ⟨i, by omega, h2, h3⟩
        · rintro ⟨i, h1, h2, h3⟩
          by_cases ei : i = n
          · rw [ei] at h3
            exact absurd h3.symm e
          · exact ⟨i, by omega, h2, h3⟩
    · rw [ents_f hS, ih]
      constructor
      · rintro ⟨i, h1, h2, h3⟩
        exact ⟨i, by omega, h2, h3⟩
      · rintro ⟨i, h1, h2, h3⟩
        by_cases ei : i = n
        · rw [ei] at h2
          exact absurd h2 hS
        · exact ⟨i, by omega, h2, h3⟩
theorem ents_0 {S : Nat → Bool} {T V L : Nat → Nat} {k : Nat} : ∀ n, (ents S T V L n).1 k = false → (ents S T V L n).2.1 k = 0 ∧ (ents S T V L n).2.2 k = 0 := by
  intro n
  induction n with
  | zero => exact fun _ => ⟨rfl, rfl⟩
  | succ n ih =>
    by_cases hS : S n = true
    · rw [ents_t hS]
      show upB (ents S T V L n).1 (T n) k = false → up (ents S T V L n).2.1 (T n) _ k = 0 ∧ up (ents S T V L n).2.2 (T n) _ k = 0
      unfold upB
      by_cases e : k = T n
      · rw [if_pos e]
        exact fun h => absurd h (by decide)
      · rw [if_neg e, up_ne _ _ e, up_ne _ _ e]
        exact ih
    · rw [ents_f hS]
      exact ih
theorem ents_W {S : Nat → Bool} {T V L : Nat → Nat} {B k : Nat} (hV : ∀ i, i < 6 → V i ≤ B) : ∀ n, n ≤ 6 → (ents S T V L n).2.1 k ≤ n * B := by
  intro n
  induction n with
  | zero => exact fun _ => Nat.zero_le _
  | succ n ih =>
    intro hn
    have q := ih (by omega)
    have r := hV n (by omega)
    have e : (n + 1) * B = n * B + B := Nat.succ_mul n B
    by_cases hS : S n = true
    · rw [ents_t hS]
      show up (ents S T V L n).2.1 (T n) _ k ≤ _
      by_cases ek : k = T n
      · rw [ek, up_self]
        rw [ek] at q
        omega
      · rw [up_ne _ _ ek]
        omega
    · rw [ents_f hS]
      omega
theorem ents_pos {S : Nat → Bool} {T V L : Nat → Nat} {k : Nat} (hV : ∀ i, i < 6 → S i = true → 0 < V i) : ∀ n, n ≤ 6 → (ents S T V L n).1 k = true → 0 < (ents S T V L n).2.1 k := by
  intro n
  induction n with
  | zero => exact fun _ h => absurd (show false = true from h) (by decide)
  | succ n ih =>
    intro hn
    by_cases hS : S n = true
    · rw [ents_t hS]
      show upB (ents S T V L n).1 (T n) k = true → 0 < up (ents S T V L n).2.1 (T n) _ k
      unfold upB
      by_cases e : k = T n
      · intro _
        rw [e, up_self]
        have := hV n (by omega) hS
        omega
      · rw [if_neg e, up_ne _ _ e]
        exact ih (by omega)
    · rw [ents_f hS]
      exact ih (by omega)
theorem ents_F {S : Nat → Bool} {T V L : Nat → Nat} {B : Nat} (hT : ∀ i, i < 6 → T i < 6) (hL : ∀ i, i < 6 → L i ≤ B) : ∀ n, n ≤ 6 → sF (ents S T V L n).2.2 6 ≤ n * B := by
  intro n
  induction n with
  | zero => exact fun _ => by rw [show sF (ents S T V L 0).2.2 6 = 0 from rfl]; exact Nat.zero_le _
  | succ n ih =>
    intro hn
    have q := ih (by omega)
    have r := hL n (by omega)
    have e : (n + 1) * B = n * B + B := Nat.succ_mul n B
    by_cases hS : S n = true
    · rw [ents_t hS]
      show sF (up (ents S T V L n).2.2 (T n) ((ents S T V L n).2.2 (T n) + L n)) 6 ≤ _
      have := sF_up (F := (ents S T V L n).2.2) (v := (ents S T V L n).2.2 (T n) + L n) (hT n (by omega))
      omega
    · rw [ents_f hS]
      omega
theorem bits6_none : bits6 (fun _ => false) = 0 := by decide
/-- the class's giver: one enters -/
theorem enter8 {h : Hp} {g : Nat} {P : Nat → Bool} {W F : Nat → Nat} (hE : ClE P W F h g) {k u l : Nat} (hk : k < 6) (hu : u < 2 ^ 31) : ∃ h', f_X0_enter g (nI k) (nI u) (nI l) h = some ((), h') ∧ ClE (upB P k) (up W k (W k + u)) (up F k (F k + l)) h' g ∧ h'.1 (g + 1) = h.1 (g + 1) := by
  obtain ⟨c1, c2, c3, c4, c5⟩ := hE
  unfold f_X0_enter
  simp only [lt, ix6 hk, if_true, cl6' hk]
  refine ⟨_, rfl, ⟨?_, fun j hj => ?_, fun j hj => ?_, ?_, ?_⟩, ?_⟩
  · rw [sI_row _ _ _ (by omega), sL1, sI1, if_pos rfl, if_pos rfl, c1, bits6_up P hk]
  · rw [sI_2, sL2, if_pos rfl]
    by_cases e : j = k
    · rw [if_pos e, e, up_self, sI_2, c2 k hk, nI_l hu, lN_add]
    · rw [if_neg e, up_ne _ _ e, sI_2, c2 j hj]
  · rw [sI1, if_pos rfl]
    by_cases e : j = k
    · rw [if_pos e, e, up_self, sL1, sI_row _ _ _ (by omega), c3 k hk, nI_add]
    · rw [if_neg e, up_ne _ _ e, sL1, sI_row _ _ _ (by omega), c3 j hj]
  · rw [sI_row _ _ _ (by omega), sL1, sI1, if_pos rfl, if_neg (by decide), c4]
  · rw [sI_row _ _ _ (by omega), sL1, sI1, if_pos rfl, if_neg (by decide), c5]
  · rw [sI_row _ _ _ (by omega), sL1, sI_row _ _ _ (by omega)]
theorem fillL_loop {a : Nat} {v : Int64} (hl : ln a < 2 ^ 31) : ∀ (n i : Nat) (h : Hp), i ≤ ln a → ln a < i + n → ∃ h', lp (F := Nat → Int64 → Int32 → Int32 → Hp → Option (Unit × Hp)) (fun _ _ _ _ _ => none) f_J7_fill_d0a16_6 n a v (nI i) (nI (ln a)) h = some ((), h') ∧ (∀ k, k ≠ a → h'.2 k = h.2 k) ∧ h'.1 = h.1 ∧ (∀ j, j < i → h'.2 a j = h.2 a j) ∧ ∀ j, i ≤ j → j < ln a → h'.2 a j = v := by
  intro n
  induction n with
  | zero => intro i h h1 h2; omega
  | succ n ih =>
    intro i h h1 h2
    show ∃ h', f_J7_fill_d0a16_6 (lp (F := Nat → Int64 → Int32 → Int32 → Hp → Option (Unit × Hp)) (fun _ _ _ _ _ => none) f_J7_fill_d0a16_6 n) a v (nI i) (nI (ln a)) h = some ((), h') ∧ _
    generalize hK : lp (F := Nat → Int64 → Int32 → Int32 → Hp → Option (Unit × Hp)) (fun _ _ _ _ _ => none) f_J7_fill_d0a16_6 n = K at ih ⊢
    unfold f_J7_fill_d0a16_6
    by_cases he : i = ln a
    · refine ⟨h, ?_, fun _ _ => rfl, rfl, fun _ _ => rfl, fun j h3 h4 => by omega⟩
      rw [if_pos (nI_le (by omega) (by omega))]
    · obtain ⟨h', e1, e2, e3, e4, e5⟩ := ih (i + 1) (sL h a i v) (by omega) (by omega)
      refine ⟨h', ?_, fun k hk => (e2 k hk).trans (rL_ne h _ hk), e3, fun j hj => ?_, fun j h3 h4 => ?_⟩
      · rw [if_neg (nI_ge (by omega) hl), if_pos (ix_nI (by omega) hl)]
        simp only [lt, nI_clamp (show i < 2 ^ 31 by omega), nI_1]
        exact e1
      · rw [e4 j (by omega), sL2, if_pos rfl, if_neg (by omega)]
      · by_cases hji : j = i
        · subst hji
          rw [e4 j (by omega), sL2, if_pos rfl, if_pos rfl]
        · exact e5 j (by omega) h4
theorem fillL8 {a : Nat} {v : Int64} (hl : ln a < 900) (h : Hp) : ∃ h', f_J7_fill_d0a16 a v h = some ((), h') ∧ (∀ k, k ≠ a → h'.2 k = h.2 k) ∧ h'.1 = h.1 ∧ ∀ j, j < ln a → h'.2 a j = v := by
  obtain ⟨h', e1, e2, e3, -, e5⟩ := fillL_loop (a := a) (v := v) (by omega) 1000 0 h (by omega) (by omega)
  exact ⟨h', e1, e2, e3, fun j hj => e5 j (by omega) hj⟩
def GvL (g : Nat) : Prop := ln (g + 1) = 6 ∧ ln (g + 3) = 6 ∧ ln (g + 4) = 6
theorem empty8 {g : Nat} (hg : GvL g) (h : Hp) : ∃ h', f_X0_empty g h = some ((), h') ∧ ClE (fun _ => false) (fun _ => 0) (fun _ => 0) h' g ∧ ∀ k, k < 6 → h'.1 (g + 1) k = 0 := by
  obtain ⟨l1, l3, l4⟩ := hg
  obtain ⟨h1, a1, a2, a3, a4⟩ := fill8 (a := g + 1) (v := 0) (by omega) h
  obtain ⟨h2, b1, b2, b3, b4⟩ := fillL8 (a := g + 3) (v := 0) (by omega) h1
  obtain ⟨h3, d1, d2, d3, d4⟩ := fill8 (a := g + 4) (v := 0) (by omega) h2
  rw [l1] at a4
  rw [l3] at b4
  rw [l4] at d4
  unfold f_X0_empty
  rw [a1]
  simp only [Option.bind_some]
  rw [b1]
  simp only [Option.bind_some]
  rw [d1]
  simp only [Option.bind_some, lt]
  refine ⟨_, rfl, ⟨?_, fun j hj => ?_, fun j hj => ?_, ?_, ?_⟩, fun j hj => ?_⟩
  · rw [sI1, if_pos rfl, if_pos rfl, bits6_none]
  · rw [sI_2, sI_2, sI_2, d3, b4 j hj]
    rfl
  · rw [sI_row _ _ _ (by omega), sI_row _ _ _ (by omega), sI_row _ _ _ (by omega), d4 j hj]
    rfl
  · simp [sI1]
  · simp [sI1]
  · rw [sI_row _ _ _ (by omega), sI_row _ _ _ (by omega), sI_row _ _ _ (by omega), d2 _ (by omega), b3, a4 j hj]
def PL (N : Nat → Nat) (n : Nat) : ES := ents (isInN N) (fun i => N (34 + i)) (tot N) (fun i => N (28 + i)) n
def memS (N : Nat → Nat) (l : Nat) : Nat → Bool := fun i => isInN N i && decide (N (34 + i) = l)
def PM (N : Nat → Nat) (l n : Nat) : ES := ents (memS N l) (fun i => i) (tot N) (fun i => N (28 + i)) n
theorem lst_le {N : Nat → Nat} (v : Vn N) {i : Nat} (hi : i < 6) : N (34 + i) < 6 := by
  have := v.1 (34 + i) (by omega)
  unfold bd at this
  rw [if_neg (by omega), if_neg (by omega), if_neg (by omega), if_pos (by omega)] at this
  omega
theorem lea_le {N : Nat → Nat} (v : Vn N) {i : Nat} (hi : i < 6) : N (28 + i) ≤ 9 := by
  have := v.1 (28 + i) (by omega)
  unfold bd at this
  rw [if_neg (by omega), if_neg (by omega), if_pos (by omega)] at this
  omega
theorem in_pos {N : Nat → Nat} {i : Nat} (h : isInN N i = true) : 0 < tot N i := by
  unfold isInN at h
  simp at h
  exact h.1
theorem Fc.pc {lo hi : Nat} {X : List Nat} {h h' : Hp} (c : Fc lo hi X h h') {p : Nat} {N : Nat → Nat} (a : Pc h p N) (hr : ∀ j, j < 5 → (p + j < lo ∨ hi ≤ p + j) ∧ p + j ∉ X) : Pc h' p N := a.keep (fun j hj => (c _ (hr j hj).1 (hr j hj).2).1)
theorem enterLists8 {N : Nat → Nat} (v : Vn N) {G p : Nat} (hpg : p + 5 ≤ G) (hl : GvL (G + 1)) {h : Hp} (a : Pc h p N) (hb : h.1 G 2 = bits6 (isInN N)) : ∃ b, f_X1_enterLists G p h = some b ∧ (ClE (PL N 6).1 (PL N 6).2.1 (PL N 6).2.2 b.2 (G + 1) ∧ (∀ k, k < 6 → b.2.1 (G + 1 + 1) k = 0) ∧ Fc (G + 1) (G + 10) [] h b.2) := by
  obtain ⟨h1, e1, e2, e3⟩ := empty8 hl h
  have f1 : Fc (G + 1) (G + 10) [] h h1 := mf_X0_empty e1
  unfold f_X1_enterLists
  rw [e1]
  simp only [Option.bind_some]
  refine lp_inv (F := Nat → Nat → Int32 → Hp → Option (Unit × Hp)) (bot := fun _ _ _ _ => none) (G := f_X1_enterLists_9) (fun K i (h : Hp) => K G p (nI i) h) 6 (fun i h' => ClE (PL N i).1 (PL N i).2.1 (PL N i).2.2 h' (G + 1) ∧ (∀ k, k < 6 → h'.1 (G + 1 + 1) k = 0) ∧ Fc (G + 1) (G + 10) [] h h') _ ?_ ?_ 1000 0 h1 (by omega) (by omega) ⟨e2, e3, f1⟩
  · rintro K i h' hi ⟨c1, c2, c3⟩
    have a' : Pc h' p N := c3.pc a (fun j hj => ⟨by omega, by simp⟩)
    have hb' : h'.1 G 2 = bits6 (isInN N) := by rw [(c3 G (by omega) (by simp)).1, hb]
    by_cases hI : isInN N i = true
    · have t1 := tot_le v hi
      obtain ⟨h2, g1, g2, g3⟩ := enter8 c1 (k := N (34 + i)) (u := tot N i) (l := N (28 + i)) (lst_le v hi) (by omega)
      refine ⟨h2, ⟨?_, fun k hk => by rw [g3]; exact c2 k hk, c3.trans (mf_X0_enter g1)⟩, ?_⟩
      · unfold PL
        rw [ents_t hI]
        exact g2
      · show f_X1_enterLists_9 K G p (nI i) h' = _
        unfold f_X1_enterLists_9 f_X1_enterLists_50
        rw [if_neg (ge6 hi), hb', holds6 _ hi]
        simp only [Option.bind_some, hI, if_true, one_ne, if_false, ix6 hi]
        rw [tot8 a' hi]
        simp only [Option.bind_some, cl6' hi]
        rw [listOf8 a' hi, leasts8 a' hi, g1]
        simp only [Option.bind_some, lt, nI_1]
    · refine ⟨h', ⟨?_, c2, c3⟩, ?_⟩
      · unfold PL
        rw [ents_f hI]
        exact c1
      · show f_X1_enterLists_9 K G p (nI i) h' = _
        unfold f_X1_enterLists_9 f_X1_enterLists_50
        rw [if_neg (ge6 hi), hb', holds6 _ hi]
        simp only [Option.bind_some, hI, if_true, lt, nI_1]
        rfl
  · rintro K h' ⟨c1, c2, c3⟩
    show ∃ b, f_X1_enterLists_9 K G p (nI 6) h' = some b ∧ _
    unfold f_X1_enterLists_9
    rw [if_pos (show (6 : Int32) ≤ nI 6 by decide)]
    exact ⟨((), h'), rfl, c1, c2, c3⟩
theorem enterMembers8 {N : Nat → Nat} (v : Vn N) {G p l : Nat} (hpg : p + 5 ≤ G) (hlb : l < 6) (hl : GvL (G + 11)) {h : Hp} (a : Pc h p N) (hb : h.1 G 2 = bits6 (isInN N)) : ∃ b, f_X1_enterMembers G p (nI l) h = some b ∧ (ClE (PM N l 6).1 (PM N l 6).2.1 (PM N l 6).2.2 b.2 (G + 11) ∧ (∀ k, k < 6 → b.2.1 (G + 11 + 1) k = 0) ∧ Fc (G + 11) (G + 20) [] h b.2) := by
  obtain ⟨h1, e1, e2, e3⟩ := empty8 hl h
  have f1 : Fc (G + 11) (G + 20) [] h h1 := mf_X0_empty e1
  unfold f_X1_enterMembers
  rw [e1]
  simp only [Option.bind_some]
  refine lp_inv (F := Nat → Nat → Int32 → Int32 → Hp → Option (Unit × Hp)) (bot := fun _ _ _ _ _ => none) (G := f_X1_enterMembers_9) (fun K i (h : Hp) => K G p (nI l) (nI i) h) 6 (fun i h' => ClE (PM N l i).1 (PM N l i).2.1 (PM N l i).2.2 h' (G + 11) ∧ (∀ k, k < 6 → h'.1 (G + 11 + 1) k = 0) ∧ Fc (G + 11) (G + 20) [] h h') _ ?_ ?_ 1000 0 h1 (by omega) (by omega) ⟨e2, e3, f1⟩
  · rintro K i h' hi ⟨c1, c2, c3⟩
    have a' : Pc h' p N := c3.pc a (fun j hj => ⟨by omega, by simp⟩)
    have hb' : h'.1 G 2 = bits6 (isInN N) := by rw [(c3 G (by omega) (by simp)).1, hb]
    have l1 := lst_le v hi
    by_cases hI : isInN N i = true
    · by_cases hL : N (34 + i) = l
      · have hM : memS N l i = true := by unfold memS; simp [hI, hL]
        have t1 := tot_le v hi
        obtain ⟨h2, g1, g2, g3⟩ := enter8 c1 (k := i) (u := tot N i) (l := N (28 + i)) hi (by omega)
        refine ⟨h2, ⟨?_, fun k hk => by rw [g3]; exact c2 k hk, c3.trans (mf_X0_enter g1)⟩, ?_⟩
        · unfold PM
          rw [ents_t hM]
          exact g2
        · show f_X1_enterMembers_9 K G p (nI l) (nI i) h' = _
          unfold f_X1_enterMembers_9 f_X1_enterMembers_55
          rw [if_neg (ge6 hi), hb', holds6 _ hi]
          simp only [Option.bind_some, hI, if_true, one_ne, if_false, ix6 hi, cl6' hi]
          rw [listOf8 a' hi, hL, if_pos rfl, tot8 a' hi]
          simp only [Option.bind_some]
          rw [leasts8 a' hi, g1]
          simp only [Option.bind_some, lt, nI_1]
      · have hM : ¬ memS N l i = true := by unfold memS; simp [hL]
        refine ⟨h', ⟨?_, c2, c3⟩, ?_⟩
        · unfold PM
          rw [ents_f hM]
          exact c1
        · show f_X1_enterMembers_9 K G p (nI l) (nI i) h' = _
          unfold f_X1_enterMembers_9 f_X1_enterMembers_55
          rw [if_neg (ge6 hi), hb', holds6 _ hi]
          simp only [Option.bind_some, hI, if_true, one_ne, if_false, ix6 hi, cl6' hi]
          rw [listOf8 a' hi, if_neg (by rw [nI_eq (by omega) (by omega)]; exact hL)]
          simp only [lt, nI_1]
    · have hM : ¬ memS N l i = true := by unfold memS; simp [hI]
      refine ⟨h', ⟨?_, c2, c3⟩, ?_⟩
      · unfold PM
        rw [ents_f hM]
        exact c1
      · show f_X1_enterMembers_9 K G p (nI l) (nI i) h' = _
        unfold f_X1_enterMembers_9 f_X1_enterMembers_55
        rw [if_neg (ge6 hi), hb', holds6 _ hi]
        simp only [Option.bind_some, hI, if_true, lt, nI_1]
        rfl
  · rintro K h' ⟨c1, c2, c3⟩
    show ∃ b, f_X1_enterMembers_9 K G p (nI l) (nI 6) h' = some b ∧ _
    unfold f_X1_enterMembers_9
    rw [if_pos (show (6 : Int32) ≤ nI 6 by decide)]
    exact ⟨((), h'), rfl, c1, c2, c3⟩
