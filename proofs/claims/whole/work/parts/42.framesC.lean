/-- the class: rows outside [lo, hi) and outside X stay -/
def Fc (lo hi : Nat) (X : List Nat) (h h' : Hp) : Prop := ∀ k, (k < lo ∨ hi ≤ k) → k ∉ X → h'.1 k = h.1 k ∧ h'.2 k = h.2 k
theorem Fc.refl {lo hi : Nat} {X : List Nat} {h : Hp} : Fc lo hi X h h := fun _ _ _ => ⟨rfl, rfl⟩
theorem Fc.trans {lo hi : Nat} {X : List Nat} {h h1 h2 : Hp} (a : Fc lo hi X h h1) (b : Fc lo hi X h1 h2) : Fc lo hi X h h2 := fun k x y => ⟨(b k x y).1.trans (a k x y).1, (b k x y).2.trans (a k x y).2⟩
theorem Fc.eqr {lo hi : Nat} {X : List Nat} {h h1 h2 : Hp} (H : Fc lo hi X h h1) (e : h1 = h2) : Fc lo hi X h h2 := by
  subst e
  exact H
theorem Fc.mono {lo hi lo' hi' : Nat} {X X' : List Nat} {h h1 : Hp} (a : Fc lo hi X h h1) (h2 : lo' ≤ lo) (h3 : hi ≤ hi') (hX : ∀ k ∈ X, (lo' ≤ k ∧ k < hi') ∨ k ∈ X') : Fc lo' hi' X' h h1 := fun k x y => a k (by omega) (fun z => by rcases hX k z with q | q; omega; exact y q)
theorem Fc.mono0 {lo' hi' : Nat} {X X' : List Nat} {h h1 : Hp} (a : Fc 0 0 X h h1) (hX : ∀ k ∈ X, (lo' ≤ k ∧ k < hi') ∨ k ∈ X') : Fc lo' hi' X' h h1 := fun k x y => a k (by omega) (fun z => by rcases hX k z with q | q; omega; exact y q)
theorem Fc.monoX {lo hi lo' hi' : Nat} {X' : List Nat} {h h1 : Hp} (a : Fc lo hi [] h h1) (hX : ∀ k, lo ≤ k → k < hi → k ∈ X') : Fc lo' hi' X' h h1 := fun k x y => a k (by
  by_cases h1 : lo ≤ k
  · by_cases h2 : k < hi
    · exact absurd (hX k h1 h2) y
    · omega
  · omega) (by simp)
theorem Fc_rI {lo hi : Nat} {X : List Nat} {h h1 h2 : Hp} {a : Nat} {f : Nat → Int32} (H : Fc lo hi X h h1) (e : h2 = rI h1 a f) (ha : (lo ≤ a ∧ a < hi) ∨ a ∈ X) : Fc lo hi X h h2 := by
  subst e
  intro k x y
  exact ⟨(rI_ne h1 f (fun z => by subst z; rcases ha with q | q; omega; exact y q)).trans (H k x y).1, (H k x y).2⟩
theorem Fc_sI {lo hi : Nat} {X : List Nat} {h h1 h2 : Hp} {a i : Nat} {v : Int32} (H : Fc lo hi X h h1) (e : h2 = sI h1 a i v) (ha : (lo ≤ a ∧ a < hi) ∨ a ∈ X) : Fc lo hi X h h2 := Fc_rI H e ha
theorem Fc_sL {lo hi : Nat} {X : List Nat} {h h1 h2 : Hp} {a i : Nat} {v : Int64} (H : Fc lo hi X h h1) (e : h2 = sL h1 a i v) (ha : (lo ≤ a ∧ a < hi) ∨ a ∈ X) : Fc lo hi X h h2 := by
  subst e
  intro k x y
  exact ⟨(H k x y).1, (rL_ne h1 _ (fun z => by subst z; rcases ha with q | q; omega; exact y q)).trans (H k x y).2⟩
theorem Fc_eq {h h' : Hp} (a : Fc 0 0 [] h h') : h = h' := by
  have e1 : h'.1 = h.1 := funext fun k => (a k (by omega) (by simp)).1
  have e2 : h'.2 = h.2 := funext fun k => (a k (by omega) (by simp)).2
  exact Prod.ext e1.symm e2.symm
set_option maxRecDepth 100000 in
theorem mf_J13_compare_74951 {x0 : Int64} {x2 : Int64} {h : Hp} {o : Int32 × Hp} (hf : f_J13_compare_74951 x0 x2 h = some o) : h = o.2 := by
  refine Fc_eq ?_
  have hF : Fc 0 0 [] h h := Fc.refl
  unfold f_J13_compare_74951 at hf
  rcases ite_or hf with hf | hf
  · rcases ite_or hf with hf | hf
    · obtain rfl := Option.some.inj hf
      exact hF
    · obtain rfl := Option.some.inj hf
      exact hF
  · obtain rfl := Option.some.inj hf
    exact hF
set_option maxRecDepth 100000 in
theorem mf_J6_bitCount_0f7a4 {x0 : Int32} {h : Hp} {o : Int32 × Hp} (hf : f_J6_bitCount_0f7a4 x0 h = some o) : h = o.2 := by
  refine Fc_eq ?_
  have hF : Fc 0 0 [] h h := Fc.refl
  unfold f_J6_bitCount_0f7a4 at hf
  obtain ⟨v1, -, hf⟩ := lt_e hf
  obtain ⟨v2, -, hf⟩ := lt_e hf
  obtain ⟨v3, -, hf⟩ := lt_e hf
  obtain ⟨v4, -, hf⟩ := lt_e hf
  obtain ⟨v5, -, hf⟩ := lt_e hf
  obtain rfl := Option.some.inj hf
  exact hF
set_option maxRecDepth 100000 in
theorem mf_J7_fill_53178_5 {a0 : Nat} {hs : Hp} {o : Unit × Hp}  : ∀ (n : Nat) {x1 : Int32} {x2 : Int32} {x3 : Int32}  {h : Hp}, Fc 0 0 [a0] hs h → lp (F := Nat → Int32 → Int32 → Int32 → Hp → Option (Unit × Hp)) (fun _ _ _ _ _ => none) (f_J7_fill_53178_5) n a0 x1 x2 x3 h = some o → Fc 0 0 [a0] hs o.2 := by
  intro n
  induction n with
  | zero =>
    intro x1 x2 x3  h hF hf
    have hf : (none : Option (Unit × Hp)) = some o := hf
    cases hf
  | succ n hk5 =>
    intro x1 x2 x3  h hF hf
    have hf : f_J7_fill_53178_5  (lp (F := Nat → Int32 → Int32 → Int32 → Hp → Option (Unit × Hp)) (fun _ _ _ _ _ => none) (f_J7_fill_53178_5) n) a0 x1 x2 x3 h = some o := hf
    unfold f_J7_fill_53178_5 at hf
    rcases ite_or hf with hf | hf
    · obtain rfl := Option.some.inj hf
      exact hF
    · obtain ⟨-, hf⟩ := ite_some hf
      obtain ⟨m2, em, hf⟩ := lt_e hf
      have hF := Fc_sI hF em (Or.inr (by simp))
      clear em
      obtain ⟨v3, -, hf⟩ := lt_e hf
      exact hk5 hF hf
set_option maxRecDepth 100000 in
theorem mf_J7_fill_53178 {a0 : Nat} {x1 : Int32} {h : Hp} {o : Unit × Hp} (hf : f_J7_fill_53178 a0 x1 h = some o) : Fc 0 0 [a0] h o.2 := by
  have hF : Fc 0 0 [a0] h h := Fc.refl
  unfold f_J7_fill_53178 at hf
  obtain ⟨v1, -, hf⟩ := lt_e hf
  exact mf_J7_fill_53178_5  1000 hF hf
set_option maxRecDepth 100000 in
theorem mf_J7_fill_d0a16_6 {a0 : Nat} {hs : Hp} {o : Unit × Hp}  : ∀ (n : Nat) {x1 : Int64} {x3 : Int32} {x4 : Int32}  {h : Hp}, Fc 0 0 [a0] hs h → lp (F := Nat → Int64 → Int32 → Int32 → Hp → Option (Unit × Hp)) (fun _ _ _ _ _ => none) (f_J7_fill_d0a16_6) n a0 x1 x3 x4 h = some o → Fc 0 0 [a0] hs o.2 := by
  intro n
  induction n with
  | zero =>
    intro x1 x3 x4  h hF hf
    have hf : (none : Option (Unit × Hp)) = some o := hf
    cases hf
  | succ n hk6 =>
    intro x1 x3 x4  h hF hf
    have hf : f_J7_fill_d0a16_6  (lp (F := Nat → Int64 → Int32 → Int32 → Hp → Option (Unit × Hp)) (fun _ _ _ _ _ => none) (f_J7_fill_d0a16_6) n) a0 x1 x3 x4 h = some o := hf
    unfold f_J7_fill_d0a16_6 at hf
    rcases ite_or hf with hf | hf
    · obtain rfl := Option.some.inj hf
      exact hF
    · obtain ⟨-, hf⟩ := ite_some hf
      obtain ⟨m2, em, hf⟩ := lt_e hf
      have hF := Fc_sL hF em (Or.inr (by simp))
      clear em
      obtain ⟨v3, -, hf⟩ := lt_e hf
      exact hk6 hF hf
set_option maxRecDepth 100000 in
theorem mf_J7_fill_d0a16 {a0 : Nat} {x1 : Int64} {h : Hp} {o : Unit × Hp} (hf : f_J7_fill_d0a16 a0 x1 h = some o) : Fc 0 0 [a0] h o.2 := by
  have hF : Fc 0 0 [a0] h h := Fc.refl
  unfold f_J7_fill_d0a16 at hf
  obtain ⟨v1, -, hf⟩ := lt_e hf
  exact mf_J7_fill_d0a16_6  1000 hF hf
set_option maxRecDepth 100000 in
theorem mf_X0_enter {a0 : Nat} {x1 : Int32} {x2 : Int32} {x3 : Int32} {h : Hp} {o : Unit × Hp} (hf : f_X0_enter a0 x1 x2 x3 h = some o) : Fc a0 (a0 + 9) [] h o.2 := by
  have hF : Fc a0 (a0 + 9) [] h h := Fc.refl
  unfold f_X0_enter at hf
  obtain ⟨m1, em, hf⟩ := lt_e hf
  have hF := Fc_sI hF em (Or.inl (by omega))
  clear em
  obtain ⟨-, hf⟩ := ite_some hf
  obtain ⟨-, hf⟩ := ite_some hf
  obtain ⟨m2, em, hf⟩ := lt_e hf
  have hF := Fc_sL hF em (Or.inl (by omega))
  clear em
  obtain ⟨-, hf⟩ := ite_some hf
  obtain ⟨-, hf⟩ := ite_some hf
  obtain ⟨m3, em, hf⟩ := lt_e hf
  have hF := Fc_sI hF em (Or.inl (by omega))
  clear em
  obtain rfl := Option.some.inj hf
  exact hF
set_option maxRecDepth 100000 in
theorem mf_X0_rank_49 {a0 : Nat} {hs : Hp} {o : Int32 × Hp}  {x1 : Int32} {x2 : Int32} {x3 : Int32}  {h : Hp} (hF : Fc a0 (a0 + 9) [] hs h) (hf : f_X0_rank_49  a0 x1 x2 x3 h = some o) : Fc a0 (a0 + 9) [] hs o.2 := by
  unfold f_X0_rank_49 at hf
  obtain ⟨-, hf⟩ := ite_some hf
  obtain ⟨m3, em, hf⟩ := lt_e hf
  have hF := Fc_sI hF em (Or.inl (by omega))
  clear em
  obtain rfl := Option.some.inj hf
  exact hF
set_option maxRecDepth 100000 in
theorem mf_X0_rank_2 {a0 : Nat} {hs : Hp} {o : Int32 × Hp}  : ∀ (n : Nat) {x1 : Int32} {x2 : Int32} {x3 : Int32}  {h : Hp}, Fc a0 (a0 + 9) [] hs h → lp (F := Nat → Int32 → Int32 → Int32 → Hp → Option (Int32 × Hp)) (fun _ _ _ _ _ => none) (f_X0_rank_2) n a0 x1 x2 x3 h = some o → Fc a0 (a0 + 9) [] hs o.2 := by
  intro n
  induction n with
  | zero =>
    intro x1 x2 x3  h hF hf
    have hf : (none : Option (Int32 × Hp)) = some o := hf
    cases hf
  | succ n hk2 =>
    intro x1 x2 x3  h hF hf
    have hf : f_X0_rank_2  (lp (F := Nat → Int32 → Int32 → Int32 → Hp → Option (Int32 × Hp)) (fun _ _ _ _ _ => none) (f_X0_rank_2) n) a0 x1 x2 x3 h = some o := hf
    unfold f_X0_rank_2 at hf
    rcases ite_or hf with hf | hf
    · exact mf_X0_rank_49  hF hf
    · obtain ⟨-, hf⟩ := ite_some hf
      obtain ⟨-, hf⟩ := ite_some hf
      obtain ⟨-, hf⟩ := ite_some hf
      rcases ite_or hf with hf | hf
      · exact mf_X0_rank_49  hF hf
      · obtain ⟨-, hf⟩ := ite_some hf
        obtain ⟨-, hf⟩ := ite_some hf
        obtain ⟨m1, em, hf⟩ := lt_e hf
        have hF := Fc_sI hF em (Or.inl (by omega))
        clear em
        obtain ⟨v2, -, hf⟩ := lt_e hf
        exact hk2 hF hf
set_option maxRecDepth 100000 in
theorem mf_X0_rank {a0 : Nat} {x1 : Int32} {x2 : Int32} {h : Hp} {o : Int32 × Hp} (hf : f_X0_rank a0 x1 x2 h = some o) : Fc a0 (a0 + 9) [] h o.2 := by
  have hF : Fc a0 (a0 + 9) [] h h := Fc.refl
  unfold f_X0_rank at hf
  exact mf_X0_rank_2  1000 hF hf
set_option maxRecDepth 100000 in
theorem mf_X1_leastBelow_2  {hs : Hp} {o : Int32 × Hp}  : ∀ (n : Nat) {a0 : Nat} {a1 : Nat} {x2 : Int32}  {h : Hp}, Fc 0 0 [] hs h → lp (F := Nat → Nat → Int32 → Hp → Option (Int32 × Hp)) (fun _ _ _ _ => none) (f_X1_leastBelow_2) n a0 a1 x2 h = some o → Fc 0 0 [] hs o.2 := by
  intro n
  induction n with
  | zero =>
    intro a0 a1 x2  h hF hf
    have hf : (none : Option (Int32 × Hp)) = some o := hf
    cases hf
  | succ n hk2 =>
    intro a0 a1 x2  h hF hf
    have hf : f_X1_leastBelow_2  (lp (F := Nat → Nat → Int32 → Hp → Option (Int32 × Hp)) (fun _ _ _ _ => none) (f_X1_leastBelow_2) n) a0 a1 x2 h = some o := hf
    unfold f_X1_leastBelow_2 at hf
    rcases ite_or hf with hf | hf
    · obtain rfl := Option.some.inj hf
      exact hF
    · obtain ⟨-, hf⟩ := ite_some hf
      obtain ⟨-, hf⟩ := ite_some hf
      rcases ite_or hf with hf | hf
      · obtain ⟨v1, -, hf⟩ := lt_e hf
        exact hk2 hF hf
      · obtain rfl := Option.some.inj hf
        exact hF
set_option maxRecDepth 100000 in
theorem mf_X1_leastBelow {a0 : Nat} {a1 : Nat} {h : Hp} {o : Int32 × Hp} (hf : f_X1_leastBelow a0 a1 h = some o) : h = o.2 := by
  refine Fc_eq ?_
  have hF : Fc 0 0 [] h h := Fc.refl
  unfold f_X1_leastBelow at hf
  exact mf_X1_leastBelow_2  1000 hF hf
set_option maxRecDepth 100000 in
theorem mf_X2_forget {a0 : Nat} {h : Hp} {o : Unit × Hp} (hf : f_X2_forget a0 h = some o) : Fc a0 (a0 + 40) [] h o.2 := by
  have hF : Fc a0 (a0 + 40) [] h h := Fc.refl
  unfold f_X2_forget at hf
  obtain ⟨m1, em, hf⟩ := lt_e hf
  have hF := Fc_sI hF em (Or.inl (by omega))
  clear em
  obtain rfl := Option.some.inj hf
  exact hF
set_option maxRecDepth 100000 in
theorem mf_X2_hasPlans_19  {hs : Hp} {o : Int32 × Hp}    {h : Hp} (hF : Fc 0 0 [] hs h) (hf : f_X2_hasPlans_19   h = some o) : Fc 0 0 [] hs o.2 := by
  unfold f_X2_hasPlans_19 at hf
  obtain ⟨-, hf⟩ := ite_some hf
  obtain rfl := Option.some.inj hf
  exact hF
set_option maxRecDepth 100000 in
theorem mf_X2_hasPlans {x0 : Int32} {h : Hp} {o : Int32 × Hp} (hf : f_X2_hasPlans x0 h = some o) : h = o.2 := by
  refine Fc_eq ?_
  have hF : Fc 0 0 [] h h := Fc.refl
  unfold f_X2_hasPlans at hf
  rcases ite_or hf with hf | hf
  · exact mf_X2_hasPlans_19  hF hf
  · rcases ite_or hf with hf | hf
    · exact mf_X2_hasPlans_19  hF hf
    · rcases ite_or hf with hf | hf
      · exact mf_X2_hasPlans_19  hF hf
      · rcases ite_or hf with hf | hf
        · exact mf_X2_hasPlans_19  hF hf
        · obtain ⟨-, hf⟩ := ite_some hf
          obtain rfl := Option.some.inj hf
          exact hF
set_option maxRecDepth 100000 in
theorem mf_X3_markAbove {a0 : Nat} {x1 : Int32} {x2 : Int32} {h : Hp} {o : Int64 × Hp} (hf : f_X3_markAbove a0 x1 x2 h = some o) : h = o.2 := by
  refine Fc_eq ?_
  have hF : Fc 0 0 [] h h := Fc.refl
  unfold f_X3_markAbove at hf
  rcases ite_or hf with hf | hf
  · obtain rfl := Option.some.inj hf
    exact hF
  · rcases ite_or hf with hf | hf
    · obtain rfl := Option.some.inj hf
      exact hF
    · rcases ite_or hf with hf | hf
      · obtain rfl := Option.some.inj hf
        exact hF
      · rcases ite_or hf with hf | hf
        · obtain rfl := Option.some.inj hf
          exact hF
        · rcases ite_or hf with hf | hf
          · obtain rfl := Option.some.inj hf
            exact hF
          · obtain rfl := Option.some.inj hf
            exact hF
set_option maxRecDepth 100000 in
theorem mf_X3_priceAbove {a0 : Nat} {x1 : Int32} {x2 : Int64} {x4 : Int32} {h : Hp} {o : Int64 × Hp} (hf : f_X3_priceAbove a0 x1 x2 x4 h = some o) : h = o.2 := by
  refine Fc_eq ?_
  have hF : Fc 0 0 [] h h := Fc.refl
  unfold f_X3_priceAbove at hf
  rcases ite_or hf with hf | hf
  · obtain rfl := Option.some.inj hf
    exact hF
  · rcases ite_or hf with hf | hf
    · obtain rfl := Option.some.inj hf
      exact hF
    · rcases ite_or hf with hf | hf
      · obtain rfl := Option.some.inj hf
        exact hF
      · rcases ite_or hf with hf | hf
        · obtain rfl := Option.some.inj hf
          exact hF
        · rcases ite_or hf with hf | hf
          · obtain rfl := Option.some.inj hf
            exact hF
          · obtain rfl := Option.some.inj hf
            exact hF
set_option maxRecDepth 100000 in
theorem mf_X3_sumOfAll_4  {hs : Hp} {o : Int32 × Hp}  : ∀ (n : Nat) {a0 : Nat} {x1 : Int32} {x2 : Int32}  {h : Hp}, Fc 0 0 [] hs h → lp (F := Nat → Int32 → Int32 → Hp → Option (Int32 × Hp)) (fun _ _ _ _ => none) (f_X3_sumOfAll_4) n a0 x1 x2 h = some o → Fc 0 0 [] hs o.2 := by
  intro n
  induction n with
  | zero =>
    intro a0 x1 x2  h hF hf
    have hf : (none : Option (Int32 × Hp)) = some o := hf
    cases hf
  | succ n hk4 =>
    intro a0 x1 x2  h hF hf
    have hf : f_X3_sumOfAll_4  (lp (F := Nat → Int32 → Int32 → Hp → Option (Int32 × Hp)) (fun _ _ _ _ => none) (f_X3_sumOfAll_4) n) a0 x1 x2 h = some o := hf
    unfold f_X3_sumOfAll_4 at hf
    rcases ite_or hf with hf | hf
    · obtain rfl := Option.some.inj hf
      exact hF
    · obtain ⟨-, hf⟩ := ite_some hf
      obtain ⟨v1, -, hf⟩ := lt_e hf
      obtain ⟨v2, -, hf⟩ := lt_e hf
      exact hk4 hF hf
set_option maxRecDepth 100000 in
theorem mf_X3_sumOfAll {a0 : Nat} {h : Hp} {o : Int32 × Hp} (hf : f_X3_sumOfAll a0 h = some o) : h = o.2 := by
  refine Fc_eq ?_
  have hF : Fc 0 0 [] h h := Fc.refl
  unfold f_X3_sumOfAll at hf
  exact mf_X3_sumOfAll_4  1000 hF hf
set_option maxRecDepth 100000 in
theorem mf_X3_sumOfSeats_4  {hs : Hp} {o : Int32 × Hp}  : ∀ (n : Nat) {a0 : Nat} {x1 : Int32} {x2 : Int32}  {h : Hp}, Fc 0 0 [] hs h → lp (F := Nat → Int32 → Int32 → Hp → Option (Int32 × Hp)) (fun _ _ _ _ => none) (f_X3_sumOfSeats_4) n a0 x1 x2 h = some o → Fc 0 0 [] hs o.2 := by
  intro n
  induction n with
  | zero =>
    intro a0 x1 x2  h hF hf
    have hf : (none : Option (Int32 × Hp)) = some o := hf
    cases hf
  | succ n hk4 =>
    intro a0 x1 x2  h hF hf
    have hf : f_X3_sumOfSeats_4  (lp (F := Nat → Int32 → Int32 → Hp → Option (Int32 × Hp)) (fun _ _ _ _ => none) (f_X3_sumOfSeats_4) n) a0 x1 x2 h = some o := hf
    unfold f_X3_sumOfSeats_4 at hf
    rcases ite_or hf with hf | hf
    · obtain rfl := Option.some.inj hf
      exact hF
    · obtain ⟨-, hf⟩ := ite_some hf
      obtain ⟨v1, -, hf⟩ := lt_e hf
      obtain ⟨v2, -, hf⟩ := lt_e hf
      exact hk4 hF hf
set_option maxRecDepth 100000 in
theorem mf_X3_sumOfSeats {a0 : Nat} {h : Hp} {o : Int32 × Hp} (hf : f_X3_sumOfSeats a0 h = some o) : h = o.2 := by
  refine Fc_eq ?_
  have hF : Fc 0 0 [] h h := Fc.refl
  unfold f_X3_sumOfSeats at hf
  exact mf_X3_sumOfSeats_4  1000 hF hf
set_option maxRecDepth 100000 in
theorem mf_X3_wardBits_24  {hs : Hp} {o : Int32 × Hp} {k4 : Nat → Int32 → Int32 → Hp → Option (Int32 × Hp)} (hk4 : ∀ {a0 : Nat} {x1 : Int32} {x2 : Int32}  {h : Hp}, Fc 0 0 [] hs h → k4 a0 x1 x2 h = some o → Fc 0 0 [] hs o.2) {a0 : Nat} {x1 : Int32} {x2 : Int32}  {h : Hp} (hF : Fc 0 0 [] hs h) (hf : f_X3_wardBits_24 k4 a0 x1 x2 h = some o) : Fc 0 0 [] hs o.2 := by
  unfold f_X3_wardBits_24 at hf
  obtain ⟨v2, -, hf⟩ := lt_e hf
  exact hk4 hF hf
set_option maxRecDepth 100000 in
theorem mf_X3_wardBits_4  {hs : Hp} {o : Int32 × Hp}  : ∀ (n : Nat) {a0 : Nat} {x1 : Int32} {x2 : Int32}  {h : Hp}, Fc 0 0 [] hs h → lp (F := Nat → Int32 → Int32 → Hp → Option (Int32 × Hp)) (fun _ _ _ _ => none) (f_X3_wardBits_4) n a0 x1 x2 h = some o → Fc 0 0 [] hs o.2 := by
  intro n
  induction n with
  | zero =>
    intro a0 x1 x2  h hF hf
    have hf : (none : Option (Int32 × Hp)) = some o := hf
    cases hf
  | succ n hk4 =>
    intro a0 x1 x2  h hF hf
    have hf : f_X3_wardBits_4  (lp (F := Nat → Int32 → Int32 → Hp → Option (Int32 × Hp)) (fun _ _ _ _ => none) (f_X3_wardBits_4) n) a0 x1 x2 h = some o := hf
    unfold f_X3_wardBits_4 at hf
    rcases ite_or hf with hf | hf
    · obtain rfl := Option.some.inj hf
      exact hF
    · obtain ⟨-, hf⟩ := ite_some hf
      rcases ite_or hf with hf | hf
      · exact mf_X3_wardBits_24 hk4 hF hf
      · obtain ⟨v1, -, hf⟩ := lt_e hf
        exact mf_X3_wardBits_24 hk4 hF hf
set_option maxRecDepth 100000 in
theorem mf_X3_wardBits {a0 : Nat} {h : Hp} {o : Int32 × Hp} (hf : f_X3_wardBits a0 h = some o) : h = o.2 := by
  refine Fc_eq ?_
  have hF : Fc 0 0 [] h h := Fc.refl
  unfold f_X3_wardBits at hf
  exact mf_X3_wardBits_4  1000 hF hf
set_option maxRecDepth 100000 in
theorem mf_X4_layOut {a0 : Nat} {x1 : Int32} {x2 : Int32} {h : Hp} {o : Unit × Hp} (hf : f_X4_layOut a0 x1 x2 h = some o) : Fc a0 (a0 + 9) [] h o.2 := by
  have hF : Fc a0 (a0 + 9) [] h h := Fc.refl
  unfold f_X4_layOut at hf
  obtain ⟨m1, em, hf⟩ := lt_e hf
  have hF := Fc_sI hF em (Or.inl (by omega))
  clear em
  obtain ⟨m2, em, hf⟩ := lt_e hf
  have hF := Fc_sI hF em (Or.inl (by omega))
  clear em
  obtain rfl := Option.some.inj hf
  exact hF
set_option maxRecDepth 100000 in
theorem mf_X4_partOfRing {a0 : Nat} {x1 : Int32} {h : Hp} {o : Int32 × Hp} (hf : f_X4_partOfRing a0 x1 h = some o) : h = o.2 := by
  refine Fc_eq ?_
  have hF : Fc 0 0 [] h h := Fc.refl
  unfold f_X4_partOfRing at hf
  rcases ite_or hf with hf | hf
  · obtain ⟨-, hf⟩ := ite_none hf
    obtain ⟨v1, -, hf⟩ := lt_e hf
    rcases ite_or hf with hf | hf
    · rcases ite_or hf with hf | hf
      · obtain ⟨-, hf⟩ := ite_some hf
        obtain rfl := Option.some.inj hf
        exact hF
      · obtain ⟨-, hf⟩ := ite_some hf
        obtain rfl := Option.some.inj hf
        exact hF
    · obtain rfl := Option.some.inj hf
      exact hF
  · obtain rfl := Option.some.inj hf
    exact hF
set_option maxRecDepth 100000 in
theorem mf_X4_turn_2 {a0 : Nat} {a1 : Nat} {hs : Hp} {o : Unit × Hp}  : ∀ (n : Nat) {x2 : Int32}  {h : Hp}, Fc a0 (a0 + 9) [a1] hs h → lp (F := Nat → Nat → Int32 → Hp → Option (Unit × Hp)) (fun _ _ _ _ => none) (f_X4_turn_2) n a0 a1 x2 h = some o → Fc a0 (a0 + 9) [a1] hs o.2 := by
  intro n
  induction n with
  | zero =>
    intro x2  h hF hf
    have hf : (none : Option (Unit × Hp)) = some o := hf
    cases hf
  | succ n hk2 =>
    intro x2  h hF hf
    have hf : f_X4_turn_2  (lp (F := Nat → Nat → Int32 → Hp → Option (Unit × Hp)) (fun _ _ _ _ => none) (f_X4_turn_2) n) a0 a1 x2 h = some o := hf
    unfold f_X4_turn_2 at hf
    rcases ite_or hf with hf | hf
    · obtain rfl := Option.some.inj hf
      exact hF
    · rcases ite_or hf with hf | hf
      · obtain rfl := Option.some.inj hf
        exact hF
      · obtain ⟨-, hf⟩ := ite_some hf
        obtain ⟨-, hf⟩ := ite_some hf
        obtain ⟨-, hf⟩ := ite_some hf
        obtain ⟨m1, em, hf⟩ := lt_e hf
        have hF := Fc_sI hF em (Or.inr (by simp))
        clear em
        obtain ⟨-, hf⟩ := ite_some hf
        obtain ⟨-, hf⟩ := ite_some hf
        obtain ⟨-, hf⟩ := ite_some hf
        obtain ⟨m2, em, hf⟩ := lt_e hf
        have hF := Fc_sI hF em (Or.inr (by simp))
        clear em
        obtain ⟨v3, -, hf⟩ := lt_e hf
        exact hk2 hF hf
set_option maxRecDepth 100000 in
theorem mf_X4_turn {a0 : Nat} {a1 : Nat} {h : Hp} {o : Unit × Hp} (hf : f_X4_turn a0 a1 h = some o) : Fc a0 (a0 + 9) [a1] h o.2 := by
  have hF : Fc a0 (a0 + 9) [a1] h h := Fc.refl
  unfold f_X4_turn at hf
  exact mf_X4_turn_2  1000 hF hf
set_option maxRecDepth 100000 in
theorem mf_X5_putByte {a0 : Nat} {x1 : Int32} {h : Hp} {o : Unit × Hp} (hf : f_X5_putByte a0 x1 h = some o) : Fc a0 (a0 + 2) [] h o.2 := by
  have hF : Fc a0 (a0 + 2) [] h h := Fc.refl
  unfold f_X5_putByte at hf
  rcases ite_or hf with hf | hf
  · obtain rfl := Option.some.inj hf
    exact hF
  · rcases ite_or hf with hf | hf
    · obtain rfl := Option.some.inj hf
      exact hF
    · obtain ⟨m1, em, hf⟩ := lt_e hf
      have hF := Fc_sI hF em (Or.inl (by omega))
      clear em
      obtain ⟨-, hf⟩ := ite_some hf
      obtain ⟨m2, em, hf⟩ := lt_e hf
      have hF := Fc_sI hF em (Or.inl (by omega))
      clear em
      obtain rfl := Option.some.inj hf
      exact hF
set_option maxRecDepth 100000 in
theorem mf_X6_copyOut_22 {a0 : Nat} {a3 : Nat} {hs : Hp} {o : Int32 × Hp}  : ∀ (n : Nat) {x1 : Int32} {x2 : Int32} {x4 : Int32}  {h : Hp}, Fc a0 (a0 + 7) [a3] hs h → lp (F := Nat → Int32 → Int32 → Nat → Int32 → Hp → Option (Int32 × Hp)) (fun _ _ _ _ _ _ => none) (f_X6_copyOut_22) n a0 x1 x2 a3 x4 h = some o → Fc a0 (a0 + 7) [a3] hs o.2 := by
  intro n
  induction n with
  | zero =>
    intro x1 x2 x4  h hF hf
    have hf : (none : Option (Int32 × Hp)) = some o := hf
    cases hf
  | succ n hk22 =>
    intro x1 x2 x4  h hF hf
    have hf : f_X6_copyOut_22  (lp (F := Nat → Int32 → Int32 → Nat → Int32 → Hp → Option (Int32 × Hp)) (fun _ _ _ _ _ _ => none) (f_X6_copyOut_22) n) a0 x1 x2 a3 x4 h = some o := hf
    unfold f_X6_copyOut_22 at hf
    rcases ite_or hf with hf | hf
    · obtain ⟨-, hf⟩ := ite_some hf
      obtain rfl := Option.some.inj hf
      exact hF
    · obtain ⟨hg, hf⟩ := ite_some hf
      have hg := ix_lt hg
      obtain ⟨-, hf⟩ := ite_some hf
      obtain ⟨-, hf⟩ := ite_some hf
      obtain ⟨m2, em, hf⟩ := lt_e hf
      have hF := Fc_sI hF em (Or.inr (by simp))
      clear em
      obtain ⟨v3, -, hf⟩ := lt_e hf
      exact hk22 hF hf
set_option maxRecDepth 100000 in
theorem mf_X6_copyOut {a0 : Nat} {x1 : Int32} {x2 : Int32} {a3 : Nat} {h : Hp} {o : Int32 × Hp} (hf : f_X6_copyOut a0 x1 x2 a3 h = some o) : Fc a0 (a0 + 7) [a3] h o.2 := by
  have hF : Fc a0 (a0 + 7) [a3] h h := Fc.refl
  unfold f_X6_copyOut at hf
  rcases ite_or hf with hf | hf
  · obtain ⟨-, hf⟩ := ite_some hf
    obtain rfl := Option.some.inj hf
    exact hF
  · obtain ⟨hg, hf⟩ := ite_some hf
    have hg := ix_lt hg
    rcases ite_or hf with hf | hf
    · exact mf_X6_copyOut_22  1000 hF hf
    · obtain ⟨-, hf⟩ := ite_some hf
      obtain rfl := Option.some.inj hf
      exact hF
set_option maxRecDepth 100000 in
theorem mf_X6_hasPlace {a0 : Nat} {x1 : Int32} {x2 : Int32} {h : Hp} {o : Int32 × Hp} (hf : f_X6_hasPlace a0 x1 x2 h = some o) : h = o.2 := by
  refine Fc_eq ?_
  have hF : Fc 0 0 [] h h := Fc.refl
  unfold f_X6_hasPlace at hf
  rcases ite_or hf with hf | hf
  · obtain ⟨-, hf⟩ := ite_some hf
    obtain rfl := Option.some.inj hf
    exact hF
  · obtain ⟨hg, hf⟩ := ite_some hf
    have hg := ix_lt hg
    rcases ite_or hf with hf | hf
    · obtain ⟨-, hf⟩ := ite_some hf
      obtain rfl := Option.some.inj hf
      exact hF
    · obtain ⟨-, hf⟩ := ite_some hf
      obtain rfl := Option.some.inj hf
      exact hF
set_option maxRecDepth 100000 in
theorem mf_X6_isThere {a0 : Nat} {x1 : Int32} {h : Hp} {o : Int32 × Hp} (hf : f_X6_isThere a0 x1 h = some o) : h = o.2 := by
  refine Fc_eq ?_
  have hF : Fc 0 0 [] h h := Fc.refl
  unfold f_X6_isThere at hf
  obtain ⟨hg, hf⟩ := ite_some hf
  have hg := ix_lt hg
  rcases ite_or hf with hf | hf
  · obtain ⟨-, hf⟩ := ite_some hf
    obtain rfl := Option.some.inj hf
    exact hF
  · obtain ⟨-, hf⟩ := ite_some hf
    obtain rfl := Option.some.inj hf
    exact hF
set_option maxRecDepth 100000 in
theorem mf_X7_isFigure {x0 : Int32} {h : Hp} {o : Int32 × Hp} (hf : f_X7_isFigure x0 h = some o) : h = o.2 := by
  refine Fc_eq ?_
  have hF : Fc 0 0 [] h h := Fc.refl
  unfold f_X7_isFigure at hf
  rcases ite_or hf with hf | hf
  · obtain ⟨-, hf⟩ := ite_some hf
    obtain rfl := Option.some.inj hf
    exact hF
  · rcases ite_or hf with hf | hf
    · obtain ⟨-, hf⟩ := ite_some hf
      obtain rfl := Option.some.inj hf
      exact hF
    · obtain ⟨-, hf⟩ := ite_some hf
      obtain rfl := Option.some.inj hf
      exact hF
set_option maxRecDepth 100000 in
theorem mf_X7_takeByte {a0 : Nat} {x1 : Int32} {h : Hp} {o : Int32 × Hp} (hf : f_X7_takeByte a0 x1 h = some o) : Fc a0 (a0 + 2) [] h o.2 := by
  have hF : Fc a0 (a0 + 2) [] h h := Fc.refl
  unfold f_X7_takeByte at hf
  rcases ite_or hf with hf | hf
  · obtain ⟨-, hf⟩ := ite_some hf
    obtain rfl := Option.some.inj hf
    exact hF
  · rcases ite_or hf with hf | hf
    · obtain ⟨m1, em, hf⟩ := lt_e hf
      have hF := Fc_sI hF em (Or.inl (by omega))
      clear em
      obtain ⟨-, hf⟩ := ite_some hf
      obtain ⟨m2, em, hf⟩ := lt_e hf
      have hF := Fc_sI hF em (Or.inl (by omega))
      clear em
      obtain ⟨-, hf⟩ := ite_some hf
      obtain rfl := Option.some.inj hf
      exact hF
    · obtain ⟨-, hf⟩ := ite_some hf
      obtain rfl := Option.some.inj hf
      exact hF
set_option maxRecDepth 100000 in
theorem mf_X7_valueOf_5  {hs : Hp} {o : Int32 × Hp}  : ∀ (n : Nat) {a0 : Nat} {x1 : Int32} {x2 : Int32} {x3 : Int32} {x4 : Int32}  {h : Hp}, Fc 0 0 [] hs h → lp (F := Nat → Int32 → Int32 → Int32 → Int32 → Hp → Option (Int32 × Hp)) (fun _ _ _ _ _ _ => none) (f_X7_valueOf_5) n a0 x1 x2 x3 x4 h = some o → Fc 0 0 [] hs o.2 := by
  intro n
  induction n with
  | zero =>
    intro a0 x1 x2 x3 x4  h hF hf
    have hf : (none : Option (Int32 × Hp)) = some o := hf
    cases hf
  | succ n hk5 =>
    intro a0 x1 x2 x3 x4  h hF hf
    have hf : f_X7_valueOf_5  (lp (F := Nat → Int32 → Int32 → Int32 → Int32 → Hp → Option (Int32 × Hp)) (fun _ _ _ _ _ _ => none) (f_X7_valueOf_5) n) a0 x1 x2 x3 x4 h = some o := hf
    unfold f_X7_valueOf_5 at hf
    rcases ite_or hf with hf | hf
    · obtain rfl := Option.some.inj hf
      exact hF
    · obtain ⟨-, hf⟩ := ite_some hf
      obtain ⟨v1, -, hf⟩ := lt_e hf
      obtain ⟨v2, -, hf⟩ := lt_e hf
      exact hk5 hF hf
set_option maxRecDepth 100000 in
theorem mf_X7_valueOf {a0 : Nat} {x1 : Int32} {x2 : Int32} {h : Hp} {o : Int32 × Hp} (hf : f_X7_valueOf a0 x1 x2 h = some o) : h = o.2 := by
  refine Fc_eq ?_
  have hF : Fc 0 0 [] h h := Fc.refl
  unfold f_X7_valueOf at hf
  exact mf_X7_valueOf_5  1000 hF hf
set_option maxRecDepth 100000 in
theorem mf_X8_cellOf {x0 : Int32} {x1 : Int32} {h : Hp} {o : Int32 × Hp} (hf : f_X8_cellOf x0 x1 h = some o) : h = o.2 := by
  refine Fc_eq ?_
  have hF : Fc 0 0 [] h h := Fc.refl
  unfold f_X8_cellOf at hf
  obtain rfl := Option.some.inj hf
  exact hF
set_option maxRecDepth 100000 in
theorem mf_X8_clear {a0 : Nat} {h : Hp} {o : Int32 × Hp} (hf : f_X8_clear a0 h = some o) : Fc a0 (a0 + 108) [] h o.2 := by
  have hF : Fc a0 (a0 + 108) [] h h := Fc.refl
  unfold f_X8_clear at hf
  obtain ⟨v1, -, hf⟩ := lt_e hf
  obtain ⟨m2, em, hf⟩ := lt_e hf
  have hF := Fc_sI hF em (Or.inl (by omega))
  clear em
  obtain rfl := Option.some.inj hf
  exact hF
set_option maxRecDepth 100000 in
theorem mf_X8_commonDivisor_44  {hs : Hp} {o : Int64 × Hp}  {x4 : Int64}  {h : Hp} (hF : Fc 0 0 [] hs h) (hf : f_X8_commonDivisor_44  x4 h = some o) : Fc 0 0 [] hs o.2 := by
  unfold f_X8_commonDivisor_44 at hf
  obtain rfl := Option.some.inj hf
  exact hF
set_option maxRecDepth 100000 in
theorem mf_X8_commonDivisor_9  {hs : Hp} {o : Int64 × Hp}  : ∀ (n : Nat) {x4 : Int64} {x6 : Int64} {x8 : Int32}  {h : Hp}, Fc 0 0 [] hs h → lp (F := Int64 → Int64 → Int32 → Hp → Option (Int64 × Hp)) (fun _ _ _ _ => none) (f_X8_commonDivisor_9) n x4 x6 x8 h = some o → Fc 0 0 [] hs o.2 := by
  intro n
  induction n with
  | zero =>
    intro x4 x6 x8  h hF hf
    have hf : (none : Option (Int64 × Hp)) = some o := hf
    cases hf
  | succ n hk9 =>
    intro x4 x6 x8  h hF hf
    have hf : f_X8_commonDivisor_9  (lp (F := Int64 → Int64 → Int32 → Hp → Option (Int64 × Hp)) (fun _ _ _ _ => none) (f_X8_commonDivisor_9) n) x4 x6 x8 h = some o := hf
    unfold f_X8_commonDivisor_9 at hf
    rcases ite_or hf with hf | hf
    · exact mf_X8_commonDivisor_44  hF hf
    · rcases ite_or hf with hf | hf
      · exact mf_X8_commonDivisor_44  hF hf
      · obtain ⟨-, hf⟩ := ite_none hf
        obtain ⟨v1, -, hf⟩ := lt_e hf
        obtain ⟨v2, -, hf⟩ := lt_e hf
        exact hk9 hF hf
set_option maxRecDepth 100000 in
theorem mf_X8_commonDivisor {x0 : Int64} {x2 : Int64} {h : Hp} {o : Int64 × Hp} (hf : f_X8_commonDivisor x0 x2 h = some o) : h = o.2 := by
  refine Fc_eq ?_
  have hF : Fc 0 0 [] h h := Fc.refl
  unfold f_X8_commonDivisor at hf
  exact mf_X8_commonDivisor_9  1000 hF hf
set_option maxRecDepth 100000 in
theorem mf_X8_holds {x0 : Int32} {x1 : Int32} {h : Hp} {o : Int32 × Hp} (hf : f_X8_holds x0 x1 h = some o) : h = o.2 := by
  refine Fc_eq ?_
  have hF : Fc 0 0 [] h h := Fc.refl
  unfold f_X8_holds at hf
  rcases ite_or hf with hf | hf
  · obtain ⟨-, hf⟩ := ite_some hf
    obtain rfl := Option.some.inj hf
    exact hF
  · obtain ⟨-, hf⟩ := ite_some hf
    obtain rfl := Option.some.inj hf
    exact hF
set_option maxRecDepth 100000 in
theorem mf_X8_paper_15  {hs : Hp} {o : Int32 × Hp}    {h : Hp} (hF : Fc 0 0 [] hs h) (hf : f_X8_paper_15   h = some o) : Fc 0 0 [] hs o.2 := by
  unfold f_X8_paper_15 at hf
  obtain rfl := Option.some.inj hf
  exact hF
set_option maxRecDepth 100000 in
theorem mf_X8_paper {a0 : Nat} {x1 : Int32} {h : Hp} {o : Int32 × Hp} (hf : f_X8_paper a0 x1 h = some o) : h = o.2 := by
  refine Fc_eq ?_
  have hF : Fc 0 0 [] h h := Fc.refl
  unfold f_X8_paper at hf
  rcases ite_or hf with hf | hf
  · exact mf_X8_paper_15  hF hf
  · rcases ite_or hf with hf | hf
    · obtain ⟨-, hf⟩ := ite_some hf
      obtain rfl := Option.some.inj hf
      exact hF
    · exact mf_X8_paper_15  hF hf
set_option maxRecDepth 100000 in
theorem mf_X8_product_59  {hs : Hp} {o : Int64 × Hp}  {x0 : Int64} {x2 : Int64}  {h : Hp} (hF : Fc 0 0 [] hs h) (hf : f_X8_product_59  x0 x2 h = some o) : Fc 0 0 [] hs o.2 := by
  unfold f_X8_product_59 at hf
  obtain rfl := Option.some.inj hf
  exact hF
set_option maxRecDepth 100000 in
theorem mf_X8_product_32  {hs : Hp} {o : Int64 × Hp}  {x0 : Int64} {x2 : Int64} {y0 : Int32}  {h : Hp} (hF : Fc 0 0 [] hs h) (hf : f_X8_product_32  x0 x2 y0 h = some o) : Fc 0 0 [] hs o.2 := by
  unfold f_X8_product_32 at hf
  rcases ite_or hf with hf | hf
  · exact mf_X8_product_59  hF hf
  · rcases ite_or hf with hf | hf
    · exact mf_X8_product_59  hF hf
    · obtain ⟨-, hf⟩ := ite_none hf
      rcases ite_or hf with hf | hf
      · exact mf_X8_product_59  hF hf
      · obtain rfl := Option.some.inj hf
        exact hF
set_option maxRecDepth 100000 in
theorem mf_X8_product {x0 : Int64} {x2 : Int64} {h : Hp} {o : Int64 × Hp} (hf : f_X8_product x0 x2 h = some o) : h = o.2 := by
  refine Fc_eq ?_
  have hF : Fc 0 0 [] h h := Fc.refl
  unfold f_X8_product at hf
  rcases ite_or hf with hf | hf
  · obtain rfl := Option.some.inj hf
    exact hF
  · rcases ite_or hf with hf | hf
    · rcases ite_or hf with hf | hf
      · exact mf_X8_product_32  hF hf
      · exact mf_X8_product_32  hF hf
    · obtain rfl := Option.some.inj hf
      exact hF
set_option maxRecDepth 100000 in
theorem mf_X8_within {x0 : Int32} {x1 : Int32} {h : Hp} {o : Int32 × Hp} (hf : f_X8_within x0 x1 h = some o) : h = o.2 := by
  refine Fc_eq ?_
  have hF : Fc 0 0 [] h h := Fc.refl
  unfold f_X8_within at hf
  rcases ite_or hf with hf | hf
  · obtain ⟨-, hf⟩ := ite_some hf
    obtain rfl := Option.some.inj hf
    exact hF
  · rcases ite_or hf with hf | hf
    · obtain ⟨-, hf⟩ := ite_some hf
      obtain rfl := Option.some.inj hf
      exact hF
    · obtain ⟨-, hf⟩ := ite_some hf
      obtain rfl := Option.some.inj hf
      exact hF
set_option maxRecDepth 100000 in
theorem mf_X0_empty {a0 : Nat} {h : Hp} {o : Unit × Hp} (hf : f_X0_empty a0 h = some o) : Fc a0 (a0 + 9) [] h o.2 := by
  have hF : Fc a0 (a0 + 9) [] h h := Fc.refl
  unfold f_X0_empty at hf
  obtain ⟨q1, e9, hf⟩ := Option.bind_eq_some_iff.mp hf
  have hF := hF.trans ((mf_J7_fill_53178 e9).mono0 (fun k hk => by simp only [List.mem_cons, List.not_mem_nil, or_false] at hk; first | (left; omega) | (right; simp only [List.mem_cons, List.not_mem_nil, or_false]; omega)))
  clear e9
  obtain ⟨q2, e9, hf⟩ := Option.bind_eq_some_iff.mp hf
  have hF := hF.trans ((mf_J7_fill_d0a16 e9).mono0 (fun k hk => by simp only [List.mem_cons, List.not_mem_nil, or_false] at hk; first | (left; omega) | (right; simp only [List.mem_cons, List.not_mem_nil, or_false]; omega)))
  clear e9
  obtain ⟨q3, e9, hf⟩ := Option.bind_eq_some_iff.mp hf
  have hF := hF.trans ((mf_J7_fill_53178 e9).mono0 (fun k hk => by simp only [List.mem_cons, List.not_mem_nil, or_false] at hk; first | (left; omega) | (right; simp only [List.mem_cons, List.not_mem_nil, or_false]; omega)))
  clear e9
  obtain ⟨m4, em, hf⟩ := lt_e hf
  have hF := Fc_sI hF em (Or.inl (by omega))
  clear em
  obtain ⟨m5, em, hf⟩ := lt_e hf
  have hF := Fc_sI hF em (Or.inl (by omega))
  clear em
  obtain ⟨m6, em, hf⟩ := lt_e hf
  have hF := Fc_sI hF em (Or.inl (by omega))
  clear em
  obtain rfl := Option.some.inj hf
  exact hF
set_option maxRecDepth 100000 in
theorem mf_X0_giveByRests_177 {a0 : Nat} {hs : Hp} {o : Int32 × Hp}  : ∀ (n : Nat) {x4 : Int32} {x5 : Int32} {x6 : Int32}  {h : Hp}, Fc a0 (a0 + 9) [] hs h → lp (F := Nat → Int32 → Int32 → Int32 → Hp → Option (Int32 × Hp)) (fun _ _ _ _ _ => none) (f_X0_giveByRests_177) n a0 x4 x5 x6 h = some o → Fc a0 (a0 + 9) [] hs o.2 := by
  intro n
  induction n with
  | zero =>
    intro x4 x5 x6  h hF hf
    have hf : (none : Option (Int32 × Hp)) = some o := hf
    cases hf
  | succ n hk177 =>
    intro x4 x5 x6  h hF hf
    have hf : f_X0_giveByRests_177  (lp (F := Nat → Int32 → Int32 → Int32 → Hp → Option (Int32 × Hp)) (fun _ _ _ _ _ => none) (f_X0_giveByRests_177) n) a0 x4 x5 x6 h = some o := hf
    unfold f_X0_giveByRests_177 at hf
    rcases ite_or hf with hf | hf
    · obtain ⟨-, hf⟩ := ite_some hf
      obtain rfl := Option.some.inj hf
      exact hF
    · obtain ⟨-, hf⟩ := ite_none hf
      obtain ⟨-, hf⟩ := ite_some hf
      obtain ⟨-, hf⟩ := ite_some hf
      obtain ⟨-, hf⟩ := ite_some hf
      obtain ⟨m9, em, hf⟩ := lt_e hf
      have hF := Fc_sI hF em (Or.inl (by omega))
      clear em
      obtain ⟨v10, -, hf⟩ := lt_e hf
      exact hk177 hF hf
set_option maxRecDepth 100000 in
theorem mf_X0_giveByRests_174 {a0 : Nat} {hs : Hp} {o : Int32 × Hp}  {x4 : Int32} {x5 : Int32}  {h : Hp} (hF : Fc a0 (a0 + 9) [] hs h) (hf : f_X0_giveByRests_174  a0 x4 x5 h = some o) : Fc a0 (a0 + 9) [] hs o.2 := by
  unfold f_X0_giveByRests_174 at hf
  exact mf_X0_giveByRests_177  1000 hF hf
set_option maxRecDepth 100000 in
theorem mf_X0_giveByRests_151 {a0 : Nat} {hs : Hp} {o : Int32 × Hp} {k45 : Nat → Int32 → Int64 → Int32 → Int32 → Int32 → Hp → Option (Int32 × Hp)} (hk45 : ∀ {x1 : Int32} {x2 : Int64} {x4 : Int32} {x5 : Int32} {x6 : Int32}  {h : Hp}, Fc a0 (a0 + 9) [] hs h → k45 a0 x1 x2 x4 x5 x6 h = some o → Fc a0 (a0 + 9) [] hs o.2) {x1 : Int32} {x2 : Int64} {x4 : Int32} {x5 : Int32} {x6 : Int32}  {h : Hp} (hF : Fc a0 (a0 + 9) [] hs h) (hf : f_X0_giveByRests_151 k45 a0 x1 x2 x4 x5 x6 h = some o) : Fc a0 (a0 + 9) [] hs o.2 := by
  unfold f_X0_giveByRests_151 at hf
  obtain ⟨v11, -, hf⟩ := lt_e hf
  exact hk45 hF hf
set_option maxRecDepth 100000 in
theorem mf_X0_giveByRests_45 {a0 : Nat} {hs : Hp} {o : Int32 × Hp}  : ∀ (n : Nat) {x1 : Int32} {x2 : Int64} {x4 : Int32} {x5 : Int32} {x6 : Int32}  {h : Hp}, Fc a0 (a0 + 9) [] hs h → lp (F := Nat → Int32 → Int64 → Int32 → Int32 → Int32 → Hp → Option (Int32 × Hp)) (fun _ _ _ _ _ _ _ => none) (f_X0_giveByRests_45) n a0 x1 x2 x4 x5 x6 h = some o → Fc a0 (a0 + 9) [] hs o.2 := by
  intro n
  induction n with
  | zero =>
    intro x1 x2 x4 x5 x6  h hF hf
    have hf : (none : Option (Int32 × Hp)) = some o := hf
    cases hf
  | succ n hk45 =>
    intro x1 x2 x4 x5 x6  h hF hf
    have hf : f_X0_giveByRests_45  (lp (F := Nat → Int32 → Int64 → Int32 → Int32 → Int32 → Hp → Option (Int32 × Hp)) (fun _ _ _ _ _ _ _ => none) (f_X0_giveByRests_45) n) a0 x1 x2 x4 x5 x6 h = some o := hf
    unfold f_X0_giveByRests_45 at hf
    rcases ite_or hf with hf | hf
    · rcases ite_or hf with hf | hf
      · obtain ⟨-, hf⟩ := ite_some hf
        obtain rfl := Option.some.inj hf
        exact hF
      · rcases ite_or hf with hf | hf
        · exact mf_X0_giveByRests_174  hF hf
        · rcases ite_or hf with hf | hf
          · obtain ⟨-, hf⟩ := ite_some hf
            obtain rfl := Option.some.inj hf
            exact hF
          · exact mf_X0_giveByRests_174  hF hf
    · obtain ⟨-, hf⟩ := ite_some hf
      obtain ⟨-, hf⟩ := ite_none hf
      obtain ⟨v3, -, hf⟩ := lt_e hf
      obtain ⟨-, hf⟩ := ite_some hf
      obtain ⟨-, hf⟩ := ite_none hf
      obtain ⟨-, hf⟩ := ite_some hf
      obtain ⟨m4, em, hf⟩ := lt_e hf
      have hF := Fc_sL hF em (Or.inl (by omega))
      clear em
      obtain ⟨-, hf⟩ := ite_some hf
      obtain ⟨-, hf⟩ := ite_some hf
      obtain ⟨m5, em, hf⟩ := lt_e hf
      have hF := Fc_sI hF em (Or.inl (by omega))
      clear em
      obtain ⟨-, hf⟩ := ite_some hf
      obtain ⟨v6, -, hf⟩ := lt_e hf
      obtain ⟨q7, e9, hf⟩ := Option.bind_eq_some_iff.mp hf
      have e9 := mf_X8_holds e9
      have hF := hF.eqr e9
      clear e9
      rcases ite_or hf with hf | hf
      · exact mf_X0_giveByRests_151 hk45 hF hf
      · obtain ⟨-, hf⟩ := ite_some hf
        rcases ite_or hf with hf | hf
        · exact mf_X0_giveByRests_151 hk45 hF hf
        · obtain ⟨q8, e9, hf⟩ := Option.bind_eq_some_iff.mp hf
          have hF := hF.trans ((mf_X0_rank e9).mono (by omega) (by omega) (fun k hk => by simp at hk))
          clear e9
          exact mf_X0_giveByRests_151 hk45 hF hf
set_option maxRecDepth 100000 in
theorem mf_X0_giveByRests_5 {a0 : Nat} {hs : Hp} {o : Int32 × Hp}  : ∀ (n : Nat) {x1 : Int32} {x2 : Int64} {x4 : Int32}  {h : Hp}, Fc a0 (a0 + 9) [] hs h → lp (F := Nat → Int32 → Int64 → Int32 → Hp → Option (Int32 × Hp)) (fun _ _ _ _ _ => none) (f_X0_giveByRests_5) n a0 x1 x2 x4 h = some o → Fc a0 (a0 + 9) [] hs o.2 := by
  intro n
  induction n with
  | zero =>
    intro x1 x2 x4  h hF hf
    have hf : (none : Option (Int32 × Hp)) = some o := hf
    cases hf
  | succ n hk5 =>
    intro x1 x2 x4  h hF hf
    have hf : f_X0_giveByRests_5  (lp (F := Nat → Int32 → Int64 → Int32 → Hp → Option (Int32 × Hp)) (fun _ _ _ _ _ => none) (f_X0_giveByRests_5) n) a0 x1 x2 x4 h = some o := hf
    unfold f_X0_giveByRests_5 at hf
    rcases ite_or hf with hf | hf
    · rcases ite_or hf with hf | hf
      · exact mf_X0_giveByRests_45  1000 hF hf
      · obtain ⟨-, hf⟩ := ite_some hf
        obtain rfl := Option.some.inj hf
        exact hF
    · obtain ⟨-, hf⟩ := ite_some hf
      obtain ⟨v1, -, hf⟩ := lt_e hf
      obtain ⟨v2, -, hf⟩ := lt_e hf
      exact hk5 hF hf
set_option maxRecDepth 100000 in
theorem mf_X0_giveByRests {a0 : Nat} {x1 : Int32} {h : Hp} {o : Int32 × Hp} (hf : f_X0_giveByRests a0 x1 h = some o) : Fc a0 (a0 + 9) [] h o.2 := by
  have hF : Fc a0 (a0 + 9) [] h h := Fc.refl
  unfold f_X0_giveByRests at hf
  exact mf_X0_giveByRests_5  1000 hF hf
set_option maxRecDepth 100000 in
theorem mf_X0_priceNext {a0 : Nat} {a1 : Nat} {x2 : Int32} {x3 : Int32} {h : Hp} {o : Unit × Hp} (hf : f_X0_priceNext a0 a1 x2 x3 h = some o) : Fc a0 (a0 + 9) [] h o.2 := by
  have hF : Fc a0 (a0 + 9) [] h h := Fc.refl
  unfold f_X0_priceNext at hf
  obtain ⟨-, hf⟩ := ite_some hf
  obtain ⟨v1, -, hf⟩ := lt_e hf
  obtain ⟨-, hf⟩ := ite_some hf
  obtain ⟨q2, e9, hf⟩ := Option.bind_eq_some_iff.mp hf
  have e9 := mf_X3_priceAbove e9
  have hF := hF.eqr e9
  clear e9
  obtain ⟨-, hf⟩ := ite_some hf
  obtain ⟨m3, em, hf⟩ := lt_e hf
  have hF := Fc_sL hF em (Or.inl (by omega))
  clear em
  obtain ⟨q4, e9, hf⟩ := Option.bind_eq_some_iff.mp hf
  have e9 := mf_X3_markAbove e9
  have hF := hF.eqr e9
  clear e9
  obtain ⟨-, hf⟩ := ite_some hf
  obtain ⟨m5, em, hf⟩ := lt_e hf
  have hF := Fc_sL hF em (Or.inl (by omega))
  clear em
  obtain rfl := Option.some.inj hf
  exact hF
set_option maxRecDepth 100000 in
theorem mf_X1_awayFrom_4  {hs : Hp} {o : Int32 × Hp}  : ∀ (n : Nat) {a0 : Nat} {a1 : Nat} {x2 : Int32} {x3 : Int32}  {h : Hp}, Fc 0 0 [] hs h → lp (F := Nat → Nat → Int32 → Int32 → Hp → Option (Int32 × Hp)) (fun _ _ _ _ _ => none) (f_X1_awayFrom_4) n a0 a1 x2 x3 h = some o → Fc 0 0 [] hs o.2 := by
  intro n
  induction n with
  | zero =>
    intro a0 a1 x2 x3  h hF hf
    have hf : (none : Option (Int32 × Hp)) = some o := hf
    cases hf
  | succ n hk4 =>
    intro a0 a1 x2 x3  h hF hf
    have hf : f_X1_awayFrom_4  (lp (F := Nat → Nat → Int32 → Int32 → Hp → Option (Int32 × Hp)) (fun _ _ _ _ _ => none) (f_X1_awayFrom_4) n) a0 a1 x2 x3 h = some o := hf
    unfold f_X1_awayFrom_4 at hf
    rcases ite_or hf with hf | hf
    · obtain rfl := Option.some.inj hf
      exact hF
    · obtain ⟨-, hf⟩ := ite_some hf
      obtain ⟨-, hf⟩ := ite_some hf
      obtain ⟨v1, -, hf⟩ := lt_e hf
      obtain ⟨v2, -, hf⟩ := lt_e hf
      exact hk4 hF hf
set_option maxRecDepth 100000 in
theorem mf_X1_awayFrom {a0 : Nat} {a1 : Nat} {h : Hp} {o : Int32 × Hp} (hf : f_X1_awayFrom a0 a1 h = some o) : h = o.2 := by
  refine Fc_eq ?_
  have hF : Fc 0 0 [] h h := Fc.refl
  unfold f_X1_awayFrom at hf
  exact mf_X1_awayFrom_4  1000 hF hf
set_option maxRecDepth 100000 in
theorem mf_X2_begin_39 {a0 : Nat} {hs : Hp} {o : Unit × Hp} {k2 : Nat → Nat → Int32 → Hp → Option (Unit × Hp)} (hk2 : ∀ {a1 : Nat} {x2 : Int32}  {h : Hp}, Fc a0 (a0 + 40) [] hs h → k2 a0 a1 x2 h = some o → Fc a0 (a0 + 40) [] hs o.2) {k17 : Nat → Nat → Int32 → Int32 → Int32 → Hp → Option (Unit × Hp)} (hk17 : ∀ {a1 : Nat} {x2 : Int32} {x3 : Int32} {x4 : Int32}  {h : Hp}, Fc a0 (a0 + 40) [] hs h → k17 a0 a1 x2 x3 x4 h = some o → Fc a0 (a0 + 40) [] hs o.2) : ∀ (n : Nat) {a1 : Nat} {x2 : Int32} {x3 : Int32} {x4 : Int32} {x5 : Int32} {x6 : Int32}  {h : Hp}, Fc a0 (a0 + 40) [] hs h → lp (F := Nat → Nat → Int32 → Int32 → Int32 → Int32 → Int32 → Hp → Option (Unit × Hp)) (fun _ _ _ _ _ _ _ _ => none) (f_X2_begin_39 k2 k17) n a0 a1 x2 x3 x4 x5 x6 h = some o → Fc a0 (a0 + 40) [] hs o.2 := by
  intro n
  induction n with
  | zero =>
    intro a1 x2 x3 x4 x5 x6  h hF hf
    have hf : (none : Option (Unit × Hp)) = some o := hf
    cases hf
  | succ n hk39 =>
    intro a1 x2 x3 x4 x5 x6  h hF hf
    have hf : f_X2_begin_39 k2 k17 (lp (F := Nat → Nat → Int32 → Int32 → Int32 → Int32 → Int32 → Hp → Option (Unit × Hp)) (fun _ _ _ _ _ _ _ _ => none) (f_X2_begin_39 k2 k17) n) a0 a1 x2 x3 x4 x5 x6 h = some o := hf
    unfold f_X2_begin_39 at hf
    rcases ite_or hf with hf | hf
    · obtain ⟨q4, e9, hf⟩ := Option.bind_eq_some_iff.mp hf
      have e9 := mf_X8_cellOf e9
      have hF := hF.eqr e9
      clear e9
      obtain ⟨-, hf⟩ := ite_some hf
      obtain ⟨m5, em, hf⟩ := lt_e hf
      have hF := Fc_sI hF em (Or.inl (by omega))
      clear em
      obtain ⟨q6, e9, hf⟩ := Option.bind_eq_some_iff.mp hf
      have e9 := mf_X8_cellOf e9
      have hF := hF.eqr e9
      clear e9
      obtain ⟨-, hf⟩ := ite_some hf
      obtain ⟨v7, -, hf⟩ := lt_e hf
      obtain ⟨v8, -, hf⟩ := lt_e hf
      exact hk17 hF hf
    · obtain ⟨q9, e9, hf⟩ := Option.bind_eq_some_iff.mp hf
      have e9 := mf_X8_cellOf e9
      have hF := hF.eqr e9
      clear e9
      obtain ⟨-, hf⟩ := ite_some hf
      obtain ⟨v10, -, hf⟩ := lt_e hf
      obtain ⟨v11, -, hf⟩ := lt_e hf
      exact hk39 hF hf
set_option maxRecDepth 100000 in
theorem mf_X2_begin_17 {a0 : Nat} {hs : Hp} {o : Unit × Hp} {k2 : Nat → Nat → Int32 → Hp → Option (Unit × Hp)} (hk2 : ∀ {a1 : Nat} {x2 : Int32}  {h : Hp}, Fc a0 (a0 + 40) [] hs h → k2 a0 a1 x2 h = some o → Fc a0 (a0 + 40) [] hs o.2) : ∀ (n : Nat) {a1 : Nat} {x2 : Int32} {x3 : Int32} {x4 : Int32}  {h : Hp}, Fc a0 (a0 + 40) [] hs h → lp (F := Nat → Nat → Int32 → Int32 → Int32 → Hp → Option (Unit × Hp)) (fun _ _ _ _ _ _ => none) (f_X2_begin_17 k2) n a0 a1 x2 x3 x4 h = some o → Fc a0 (a0 + 40) [] hs o.2 := by
  intro n
  induction n with
  | zero =>
    intro a1 x2 x3 x4  h hF hf
    have hf : (none : Option (Unit × Hp)) = some o := hf
    cases hf
  | succ n hk17 =>
    intro a1 x2 x3 x4  h hF hf
    have hf : f_X2_begin_17 k2 (lp (F := Nat → Nat → Int32 → Int32 → Int32 → Hp → Option (Unit × Hp)) (fun _ _ _ _ _ _ => none) (f_X2_begin_17 k2) n) a0 a1 x2 x3 x4 h = some o := hf
    unfold f_X2_begin_17 at hf
    rcases ite_or hf with hf | hf
    · obtain ⟨v2, -, hf⟩ := lt_e hf
      exact hk2 hF hf
    · obtain ⟨-, hf⟩ := ite_some hf
      obtain ⟨v3, -, hf⟩ := lt_e hf
      exact mf_X2_begin_39 hk2 hk17 1000 hF hf
set_option maxRecDepth 100000 in
theorem mf_X2_begin_2 {a0 : Nat} {hs : Hp} {o : Unit × Hp}  : ∀ (n : Nat) {a1 : Nat} {x2 : Int32}  {h : Hp}, Fc a0 (a0 + 40) [] hs h → lp (F := Nat → Nat → Int32 → Hp → Option (Unit × Hp)) (fun _ _ _ _ => none) (f_X2_begin_2) n a0 a1 x2 h = some o → Fc a0 (a0 + 40) [] hs o.2 := by
  intro n
  induction n with
  | zero =>
    intro a1 x2  h hF hf
    have hf : (none : Option (Unit × Hp)) = some o := hf
    cases hf
  | succ n hk2 =>
    intro a1 x2  h hF hf
    have hf : f_X2_begin_2  (lp (F := Nat → Nat → Int32 → Hp → Option (Unit × Hp)) (fun _ _ _ _ => none) (f_X2_begin_2) n) a0 a1 x2 h = some o := hf
    unfold f_X2_begin_2 at hf
    rcases ite_or hf with hf | hf
    · obtain rfl := Option.some.inj hf
      exact hF
    · obtain ⟨-, hf⟩ := ite_some hf
      obtain ⟨v1, -, hf⟩ := lt_e hf
      exact mf_X2_begin_17 hk2 1000 hF hf
set_option maxRecDepth 100000 in
theorem mf_X2_begin {a0 : Nat} {a1 : Nat} {h : Hp} {o : Unit × Hp} (hf : f_X2_begin a0 a1 h = some o) : Fc a0 (a0 + 40) [] h o.2 := by
  have hF : Fc a0 (a0 + 40) [] h h := Fc.refl
  unfold f_X2_begin at hf
  exact mf_X2_begin_2  1000 hF hf
set_option maxRecDepth 100000 in
theorem mf_X2_takes_97  {hs : Hp} {o : Int32 × Hp} {k85 : Nat → Nat → Int32 → Hp → Option (Int32 × Hp)} (hk85 : ∀ {a0 : Nat} {a2 : Nat} {x3 : Int32}  {h : Hp}, Fc 0 0 [] hs h → k85 a0 a2 x3 h = some o → Fc 0 0 [] hs o.2) : ∀ (n : Nat) {a0 : Nat} {a2 : Nat} {x3 : Int32} {x4 : Int64} {x6 : Int32}  {h : Hp}, Fc 0 0 [] hs h → lp (F := Nat → Nat → Int32 → Int64 → Int32 → Hp → Option (Int32 × Hp)) (fun _ _ _ _ _ _ => none) (f_X2_takes_97 k85) n a0 a2 x3 x4 x6 h = some o → Fc 0 0 [] hs o.2 := by
  intro n
  induction n with
  | zero =>
    intro a0 a2 x3 x4 x6  h hF hf
    have hf : (none : Option (Int32 × Hp)) = some o := hf
    cases hf
  | succ n hk97 =>
    intro a0 a2 x3 x4 x6  h hF hf
    have hf : f_X2_takes_97 k85 (lp (F := Nat → Nat → Int32 → Int64 → Int32 → Hp → Option (Int32 × Hp)) (fun _ _ _ _ _ _ => none) (f_X2_takes_97 k85) n) a0 a2 x3 x4 x6 h = some o := hf
    unfold f_X2_takes_97 at hf
    rcases ite_or hf with hf | hf
    · obtain ⟨-, hf⟩ := ite_some hf
      rcases ite_or hf with hf | hf
      · obtain ⟨v2, -, hf⟩ := lt_e hf
        exact hk85 hF hf
      · obtain ⟨-, hf⟩ := ite_some hf
        obtain rfl := Option.some.inj hf
        exact hF
    · obtain ⟨q3, e9, hf⟩ := Option.bind_eq_some_iff.mp hf
      have e9 := mf_X8_cellOf e9
      have hF := hF.eqr e9
      clear e9
      obtain ⟨-, hf⟩ := ite_some hf
      obtain ⟨v4, -, hf⟩ := lt_e hf
      obtain ⟨v5, -, hf⟩ := lt_e hf
      exact hk97 hF hf
set_option maxRecDepth 100000 in
theorem mf_X2_takes_85  {hs : Hp} {o : Int32 × Hp}  : ∀ (n : Nat) {a0 : Nat} {a2 : Nat} {x3 : Int32}  {h : Hp}, Fc 0 0 [] hs h → lp (F := Nat → Nat → Int32 → Hp → Option (Int32 × Hp)) (fun _ _ _ _ => none) (f_X2_takes_85) n a0 a2 x3 h = some o → Fc 0 0 [] hs o.2 := by
  intro n
  induction n with
  | zero =>
    intro a0 a2 x3  h hF hf
    have hf : (none : Option (Int32 × Hp)) = some o := hf
    cases hf
  | succ n hk85 =>
    intro a0 a2 x3  h hF hf
    have hf : f_X2_takes_85  (lp (F := Nat → Nat → Int32 → Hp → Option (Int32 × Hp)) (fun _ _ _ _ => none) (f_X2_takes_85) n) a0 a2 x3 h = some o := hf
    unfold f_X2_takes_85 at hf
    rcases ite_or hf with hf | hf
    · obtain ⟨-, hf⟩ := ite_some hf
      obtain rfl := Option.some.inj hf
      exact hF
    · exact mf_X2_takes_97 hk85 1000 hF hf
set_option maxRecDepth 100000 in
theorem mf_X2_takes_35  {hs : Hp} {o : Int32 × Hp} {k24 : Nat → Nat → Nat → Int32 → Hp → Option (Int32 × Hp)} (hk24 : ∀ {a0 : Nat} {a1 : Nat} {a2 : Nat} {x3 : Int32}  {h : Hp}, Fc 0 0 [] hs h → k24 a0 a1 a2 x3 h = some o → Fc 0 0 [] hs o.2) : ∀ (n : Nat) {a0 : Nat} {a1 : Nat} {a2 : Nat} {x3 : Int32} {x4 : Int64} {x6 : Int32}  {h : Hp}, Fc 0 0 [] hs h → lp (F := Nat → Nat → Nat → Int32 → Int64 → Int32 → Hp → Option (Int32 × Hp)) (fun _ _ _ _ _ _ _ => none) (f_X2_takes_35 k24) n a0 a1 a2 x3 x4 x6 h = some o → Fc 0 0 [] hs o.2 := by
  intro n
  induction n with
  | zero =>
    intro a0 a1 a2 x3 x4 x6  h hF hf
    have hf : (none : Option (Int32 × Hp)) = some o := hf
    cases hf
  | succ n hk35 =>
    intro a0 a1 a2 x3 x4 x6  h hF hf
    have hf : f_X2_takes_35 k24 (lp (F := Nat → Nat → Nat → Int32 → Int64 → Int32 → Hp → Option (Int32 × Hp)) (fun _ _ _ _ _ _ _ => none) (f_X2_takes_35 k24) n) a0 a1 a2 x3 x4 x6 h = some o := hf
    unfold f_X2_takes_35 at hf
    rcases ite_or hf with hf | hf
    · obtain ⟨-, hf⟩ := ite_some hf
      rcases ite_or hf with hf | hf
      · obtain ⟨v6, -, hf⟩ := lt_e hf
        exact hk24 hF hf
      · obtain ⟨-, hf⟩ := ite_some hf
        obtain rfl := Option.some.inj hf
        exact hF
    · obtain ⟨q7, e9, hf⟩ := Option.bind_eq_some_iff.mp hf
      have e9 := mf_X8_cellOf e9
      have hF := hF.eqr e9
      clear e9
      obtain ⟨-, hf⟩ := ite_some hf
      obtain ⟨v8, -, hf⟩ := lt_e hf
      obtain ⟨v9, -, hf⟩ := lt_e hf
      exact hk35 hF hf
set_option maxRecDepth 100000 in
theorem mf_X2_takes_24  {hs : Hp} {o : Int32 × Hp}  : ∀ (n : Nat) {a0 : Nat} {a1 : Nat} {a2 : Nat} {x3 : Int32}  {h : Hp}, Fc 0 0 [] hs h → lp (F := Nat → Nat → Nat → Int32 → Hp → Option (Int32 × Hp)) (fun _ _ _ _ _ => none) (f_X2_takes_24) n a0 a1 a2 x3 h = some o → Fc 0 0 [] hs o.2 := by
  intro n
  induction n with
  | zero =>
    intro a0 a1 a2 x3  h hF hf
    have hf : (none : Option (Int32 × Hp)) = some o := hf
    cases hf
  | succ n hk24 =>
    intro a0 a1 a2 x3  h hF hf
    have hf : f_X2_takes_24  (lp (F := Nat → Nat → Nat → Int32 → Hp → Option (Int32 × Hp)) (fun _ _ _ _ _ => none) (f_X2_takes_24) n) a0 a1 a2 x3 h = some o := hf
    unfold f_X2_takes_24 at hf
    rcases ite_or hf with hf | hf
    · exact mf_X2_takes_85  1000 hF hf
    · exact mf_X2_takes_35 hk24 1000 hF hf
set_option maxRecDepth 100000 in
theorem mf_X2_takes_2  {hs : Hp} {o : Int32 × Hp}  : ∀ (n : Nat) {a0 : Nat} {a1 : Nat} {a2 : Nat} {x3 : Int32}  {h : Hp}, Fc 0 0 [] hs h → lp (F := Nat → Nat → Nat → Int32 → Hp → Option (Int32 × Hp)) (fun _ _ _ _ _ => none) (f_X2_takes_2) n a0 a1 a2 x3 h = some o → Fc 0 0 [] hs o.2 := by
  intro n
  induction n with
  | zero =>
    intro a0 a1 a2 x3  h hF hf
    have hf : (none : Option (Int32 × Hp)) = some o := hf
    cases hf
  | succ n hk2 =>
    intro a0 a1 a2 x3  h hF hf
    have hf : f_X2_takes_2  (lp (F := Nat → Nat → Nat → Int32 → Hp → Option (Int32 × Hp)) (fun _ _ _ _ _ => none) (f_X2_takes_2) n) a0 a1 a2 x3 h = some o := hf
    unfold f_X2_takes_2 at hf
    rcases ite_or hf with hf | hf
    · exact mf_X2_takes_24  1000 hF hf
    · obtain ⟨-, hf⟩ := ite_some hf
      rcases ite_or hf with hf | hf
      · obtain ⟨v1, -, hf⟩ := lt_e hf
        exact hk2 hF hf
      · obtain ⟨-, hf⟩ := ite_some hf
        obtain rfl := Option.some.inj hf
        exact hF
set_option maxRecDepth 100000 in
theorem mf_X2_takes {a0 : Nat} {a1 : Nat} {a2 : Nat} {h : Hp} {o : Int32 × Hp} (hf : f_X2_takes a0 a1 a2 h = some o) : h = o.2 := by
  refine Fc_eq ?_
  have hF : Fc 0 0 [] h h := Fc.refl
  unfold f_X2_takes at hf
  exact mf_X2_takes_2  1000 hF hf
set_option maxRecDepth 100000 in
theorem mf_X3_copyFrom {a0 : Nat} {a1 : Nat} {h : Hp} {o : Unit × Hp} (hf : f_X3_copyFrom a0 a1 h = some o) : Fc a0 (a0 + 5) [] h o.2 := by
  have hF : Fc a0 (a0 + 5) [] h h := Fc.refl
  unfold f_X3_copyFrom at hf
  obtain ⟨m1, em, hf⟩ := lt_e hf
  have hF := Fc_rI hF em (Or.inl (by omega))
  clear em
  obtain ⟨m2, em, hf⟩ := lt_e hf
  have hF := Fc_rI hF em (Or.inl (by omega))
  clear em
  obtain ⟨m3, em, hf⟩ := lt_e hf
  have hF := Fc_rI hF em (Or.inl (by omega))
  clear em
  obtain ⟨m4, em, hf⟩ := lt_e hf
  have hF := Fc_rI hF em (Or.inl (by omega))
  clear em
  obtain ⟨m5, em, hf⟩ := lt_e hf
  have hF := Fc_sI hF em (Or.inl (by omega))
  clear em
  obtain ⟨m6, em, hf⟩ := lt_e hf
  have hF := Fc_sI hF em (Or.inl (by omega))
  clear em
  obtain ⟨m7, em, hf⟩ := lt_e hf
  have hF := Fc_sI hF em (Or.inl (by omega))
  clear em
  obtain ⟨m8, em, hf⟩ := lt_e hf
  have hF := Fc_sI hF em (Or.inl (by omega))
  clear em
  obtain rfl := Option.some.inj hf
  exact hF
set_option maxRecDepth 100000 in
theorem mf_X3_planMarkBelow {a0 : Nat} {h : Hp} {o : Int64 × Hp} (hf : f_X3_planMarkBelow a0 h = some o) : h = o.2 := by
  refine Fc_eq ?_
  have hF : Fc 0 0 [] h h := Fc.refl
  unfold f_X3_planMarkBelow at hf
  obtain ⟨q1, e9, hf⟩ := Option.bind_eq_some_iff.mp hf
  have e9 := mf_X3_priceAbove e9
  have hF := hF.eqr e9
  clear e9
  obtain rfl := Option.some.inj hf
  exact hF
set_option maxRecDepth 100000 in
theorem mf_X3_sumOfWard_4  {hs : Hp} {o : Int32 × Hp}  : ∀ (n : Nat) {a0 : Nat} {x1 : Int32} {x2 : Int32} {x3 : Int32}  {h : Hp}, Fc 0 0 [] hs h → lp (F := Nat → Int32 → Int32 → Int32 → Hp → Option (Int32 × Hp)) (fun _ _ _ _ _ => none) (f_X3_sumOfWard_4) n a0 x1 x2 x3 h = some o → Fc 0 0 [] hs o.2 := by
  intro n
  induction n with
  | zero =>
    intro a0 x1 x2 x3  h hF hf
    have hf : (none : Option (Int32 × Hp)) = some o := hf
    cases hf
  | succ n hk4 =>
    intro a0 x1 x2 x3  h hF hf
    have hf : f_X3_sumOfWard_4  (lp (F := Nat → Int32 → Int32 → Int32 → Hp → Option (Int32 × Hp)) (fun _ _ _ _ _ => none) (f_X3_sumOfWard_4) n) a0 x1 x2 x3 h = some o := hf
    unfold f_X3_sumOfWard_4 at hf
    rcases ite_or hf with hf | hf
    · obtain rfl := Option.some.inj hf
      exact hF
    · obtain ⟨q1, e9, hf⟩ := Option.bind_eq_some_iff.mp hf
      have e9 := mf_X8_cellOf e9
      have hF := hF.eqr e9
      clear e9
      obtain ⟨-, hf⟩ := ite_some hf
      obtain ⟨v2, -, hf⟩ := lt_e hf
      obtain ⟨v3, -, hf⟩ := lt_e hf
      exact hk4 hF hf
set_option maxRecDepth 100000 in
theorem mf_X3_sumOfWard {a0 : Nat} {x1 : Int32} {h : Hp} {o : Int32 × Hp} (hf : f_X3_sumOfWard a0 x1 h = some o) : h = o.2 := by
  refine Fc_eq ?_
  have hF : Fc 0 0 [] h h := Fc.refl
  unfold f_X3_sumOfWard at hf
  exact mf_X3_sumOfWard_4  1000 hF hf
set_option maxRecDepth 100000 in
theorem mf_X3_totalOf_4  {hs : Hp} {o : Int32 × Hp}  : ∀ (n : Nat) {a0 : Nat} {x1 : Int32} {x2 : Int32} {x3 : Int32}  {h : Hp}, Fc 0 0 [] hs h → lp (F := Nat → Int32 → Int32 → Int32 → Hp → Option (Int32 × Hp)) (fun _ _ _ _ _ => none) (f_X3_totalOf_4) n a0 x1 x2 x3 h = some o → Fc 0 0 [] hs o.2 := by
  intro n
  induction n with
  | zero =>
    intro a0 x1 x2 x3  h hF hf
    have hf : (none : Option (Int32 × Hp)) = some o := hf
    cases hf
  | succ n hk4 =>
    intro a0 x1 x2 x3  h hF hf
    have hf : f_X3_totalOf_4  (lp (F := Nat → Int32 → Int32 → Int32 → Hp → Option (Int32 × Hp)) (fun _ _ _ _ _ => none) (f_X3_totalOf_4) n) a0 x1 x2 x3 h = some o := hf
    unfold f_X3_totalOf_4 at hf
    rcases ite_or hf with hf | hf
    · obtain rfl := Option.some.inj hf
      exact hF
    · obtain ⟨q1, e9, hf⟩ := Option.bind_eq_some_iff.mp hf
      have e9 := mf_X8_cellOf e9
      have hF := hF.eqr e9
      clear e9
      obtain ⟨-, hf⟩ := ite_some hf
      obtain ⟨v2, -, hf⟩ := lt_e hf
      obtain ⟨v3, -, hf⟩ := lt_e hf
      exact hk4 hF hf
set_option maxRecDepth 100000 in
theorem mf_X3_totalOf {a0 : Nat} {x1 : Int32} {h : Hp} {o : Int32 × Hp} (hf : f_X3_totalOf a0 x1 h = some o) : h = o.2 := by
  refine Fc_eq ?_
  have hF : Fc 0 0 [] h h := Fc.refl
  unfold f_X3_totalOf at hf
  exact mf_X3_totalOf_4  1000 hF hf
set_option maxRecDepth 100000 in
theorem mf_X4_weigh_164  {hs : Hp} {o : Int32 × Hp}  {x1 : Int64} {x3 : Int64}  {h : Hp} (hF : Fc 0 0 [] hs h) (hf : f_X4_weigh_164  x1 x3 h = some o) : Fc 0 0 [] hs o.2 := by
  unfold f_X4_weigh_164 at hf
  rcases ite_or hf with hf | hf
  · obtain rfl := Option.some.inj hf
    exact hF
  · rcases ite_or hf with hf | hf
    · rcases ite_or hf with hf | hf
      · obtain rfl := Option.some.inj hf
        exact hF
      · obtain rfl := Option.some.inj hf
        exact hF
    · obtain rfl := Option.some.inj hf
      exact hF
set_option maxRecDepth 100000 in
theorem mf_X4_weigh_109  {hs : Hp} {o : Int32 × Hp}  : ∀ (n : Nat) {a0 : Nat} {x1 : Int64} {x3 : Int64} {x5 : Int32}  {h : Hp}, Fc 0 0 [] hs h → lp (F := Nat → Int64 → Int64 → Int32 → Hp → Option (Int32 × Hp)) (fun _ _ _ _ _ => none) (f_X4_weigh_109) n a0 x1 x3 x5 h = some o → Fc 0 0 [] hs o.2 := by
  intro n
  induction n with
  | zero =>
    intro a0 x1 x3 x5  h hF hf
    have hf : (none : Option (Int32 × Hp)) = some o := hf
    cases hf
  | succ n hk109 =>
    intro a0 x1 x3 x5  h hF hf
    have hf : f_X4_weigh_109  (lp (F := Nat → Int64 → Int64 → Int32 → Hp → Option (Int32 × Hp)) (fun _ _ _ _ _ => none) (f_X4_weigh_109) n) a0 x1 x3 x5 h = some o := hf
    unfold f_X4_weigh_109 at hf
    rcases ite_or hf with hf | hf
    · exact mf_X4_weigh_164  hF hf
    · rcases ite_or hf with hf | hf
      · exact mf_X4_weigh_164  hF hf
      · obtain ⟨-, hf⟩ := ite_some hf
        obtain ⟨-, hf⟩ := ite_some hf
        obtain ⟨q7, e9, hf⟩ := Option.bind_eq_some_iff.mp hf
        have e9 := mf_X8_product e9
        have hF := hF.eqr e9
        clear e9
        obtain ⟨-, hf⟩ := ite_some hf
        obtain ⟨-, hf⟩ := ite_some hf
        obtain ⟨q8, e9, hf⟩ := Option.bind_eq_some_iff.mp hf
        have e9 := mf_X8_product e9
        have hF := hF.eqr e9
        clear e9
        obtain ⟨v9, -, hf⟩ := lt_e hf
        exact hk109 hF hf
set_option maxRecDepth 100000 in
theorem mf_X4_weigh_106  {hs : Hp} {o : Int32 × Hp}  {a0 : Nat} {x1 : Int64} {x3 : Int64}  {h : Hp} (hF : Fc 0 0 [] hs h) (hf : f_X4_weigh_106  a0 x1 x3 h = some o) : Fc 0 0 [] hs o.2 := by
  unfold f_X4_weigh_106 at hf
  exact mf_X4_weigh_109  1000 hF hf
set_option maxRecDepth 100000 in
theorem mf_X4_weigh_67  {hs : Hp} {o : Int32 × Hp}  : ∀ (n : Nat) {a0 : Nat} {x1 : Int64} {x3 : Int64} {x5 : Int32}  {h : Hp}, Fc 0 0 [] hs h → lp (F := Nat → Int64 → Int64 → Int32 → Hp → Option (Int32 × Hp)) (fun _ _ _ _ _ => none) (f_X4_weigh_67) n a0 x1 x3 x5 h = some o → Fc 0 0 [] hs o.2 := by
  intro n
  induction n with
  | zero =>
    intro a0 x1 x3 x5  h hF hf
    have hf : (none : Option (Int32 × Hp)) = some o := hf
    cases hf
  | succ n hk67 =>
    intro a0 x1 x3 x5  h hF hf
    have hf : f_X4_weigh_67  (lp (F := Nat → Int64 → Int64 → Int32 → Hp → Option (Int32 × Hp)) (fun _ _ _ _ _ => none) (f_X4_weigh_67) n) a0 x1 x3 x5 h = some o := hf
    unfold f_X4_weigh_67 at hf
    rcases ite_or hf with hf | hf
    · exact mf_X4_weigh_106  hF hf
    · rcases ite_or hf with hf | hf
      · exact mf_X4_weigh_106  hF hf
      · obtain ⟨q4, e9, hf⟩ := Option.bind_eq_some_iff.mp hf
        have e9 := mf_X8_product e9
        have hF := hF.eqr e9
        clear e9
        obtain ⟨q5, e9, hf⟩ := Option.bind_eq_some_iff.mp hf
        have e9 := mf_X8_product e9
        have hF := hF.eqr e9
        clear e9
        obtain ⟨v6, -, hf⟩ := lt_e hf
        exact hk67 hF hf
set_option maxRecDepth 100000 in
theorem mf_X4_weigh_64  {hs : Hp} {o : Int32 × Hp}  {a0 : Nat} {x1 : Int64} {x3 : Int64}  {h : Hp} (hF : Fc 0 0 [] hs h) (hf : f_X4_weigh_64  a0 x1 x3 h = some o) : Fc 0 0 [] hs o.2 := by
  unfold f_X4_weigh_64 at hf
  exact mf_X4_weigh_67  1000 hF hf
set_option maxRecDepth 100000 in
theorem mf_X4_weigh_7  {hs : Hp} {o : Int32 × Hp}  : ∀ (n : Nat) {a0 : Nat} {x1 : Int64} {x3 : Int64} {x5 : Int32}  {h : Hp}, Fc 0 0 [] hs h → lp (F := Nat → Int64 → Int64 → Int32 → Hp → Option (Int32 × Hp)) (fun _ _ _ _ _ => none) (f_X4_weigh_7) n a0 x1 x3 x5 h = some o → Fc 0 0 [] hs o.2 := by
  intro n
  induction n with
  | zero =>
    intro a0 x1 x3 x5  h hF hf
    have hf : (none : Option (Int32 × Hp)) = some o := hf
    cases hf
  | succ n hk7 =>
    intro a0 x1 x3 x5  h hF hf
    have hf : f_X4_weigh_7  (lp (F := Nat → Int64 → Int64 → Int32 → Hp → Option (Int32 × Hp)) (fun _ _ _ _ _ => none) (f_X4_weigh_7) n) a0 x1 x3 x5 h = some o := hf
    unfold f_X4_weigh_7 at hf
    rcases ite_or hf with hf | hf
    · exact mf_X4_weigh_64  hF hf
    · rcases ite_or hf with hf | hf
      · exact mf_X4_weigh_64  hF hf
      · obtain ⟨-, hf⟩ := ite_some hf
        obtain ⟨-, hf⟩ := ite_some hf
        obtain ⟨q1, e9, hf⟩ := Option.bind_eq_some_iff.mp hf
        have e9 := mf_X8_product e9
        have hF := hF.eqr e9
        clear e9
        obtain ⟨-, hf⟩ := ite_some hf
        obtain ⟨-, hf⟩ := ite_some hf
        obtain ⟨q2, e9, hf⟩ := Option.bind_eq_some_iff.mp hf
        have e9 := mf_X8_product e9
        have hF := hF.eqr e9
        clear e9
        obtain ⟨v3, -, hf⟩ := lt_e hf
        exact hk7 hF hf
set_option maxRecDepth 100000 in
theorem mf_X4_weigh {a0 : Nat} {h : Hp} {o : Int32 × Hp} (hf : f_X4_weigh a0 h = some o) : h = o.2 := by
  refine Fc_eq ?_
  have hF : Fc 0 0 [] h h := Fc.refl
  unfold f_X4_weigh at hf
  exact mf_X4_weigh_7  1000 hF hf
set_option maxRecDepth 100000 in
theorem mf_X5_putSeats_44 {a0 : Nat} {hs : Hp} {o : Unit × Hp} {k2 : Nat → Nat → Int32 → Int32 → Hp → Option (Unit × Hp)} (hk2 : ∀ {a1 : Nat} {x2 : Int32} {x3 : Int32}  {h : Hp}, Fc a0 (a0 + 2) [] hs h → k2 a0 a1 x2 x3 h = some o → Fc a0 (a0 + 2) [] hs o.2) {a1 : Nat} {x2 : Int32} {x3 : Int32} {x4 : Int32}  {h : Hp} (hF : Fc a0 (a0 + 2) [] hs h) (hf : f_X5_putSeats_44 k2 a0 a1 x2 x3 x4 h = some o) : Fc a0 (a0 + 2) [] hs o.2 := by
  unfold f_X5_putSeats_44 at hf
  obtain ⟨-, hf⟩ := ite_none hf
  obtain ⟨q4, e9, hf⟩ := Option.bind_eq_some_iff.mp hf
  have hF := hF.trans ((mf_X5_putByte e9).mono (by omega) (by omega) (fun k hk => by simp at hk))
  clear e9
  obtain ⟨v5, -, hf⟩ := lt_e hf
  exact hk2 hF hf
set_option maxRecDepth 100000 in
theorem mf_X5_putSeats_18 {a0 : Nat} {hs : Hp} {o : Unit × Hp} {k2 : Nat → Nat → Int32 → Int32 → Hp → Option (Unit × Hp)} (hk2 : ∀ {a1 : Nat} {x2 : Int32} {x3 : Int32}  {h : Hp}, Fc a0 (a0 + 2) [] hs h → k2 a0 a1 x2 x3 h = some o → Fc a0 (a0 + 2) [] hs o.2) {a1 : Nat} {x2 : Int32} {x3 : Int32}  {h : Hp} (hF : Fc a0 (a0 + 2) [] hs h) (hf : f_X5_putSeats_18 k2 a0 a1 x2 x3 h = some o) : Fc a0 (a0 + 2) [] hs o.2 := by
  unfold f_X5_putSeats_18 at hf
  obtain ⟨-, hf⟩ := ite_some hf
  obtain ⟨v2, -, hf⟩ := lt_e hf
  rcases ite_or hf with hf | hf
  · exact mf_X5_putSeats_44 hk2 hF hf
  · obtain ⟨-, hf⟩ := ite_none hf
    obtain ⟨q3, e9, hf⟩ := Option.bind_eq_some_iff.mp hf
    have hF := hF.trans ((mf_X5_putByte e9).mono (by omega) (by omega) (fun k hk => by simp at hk))
    clear e9
    exact mf_X5_putSeats_44 hk2 hF hf
set_option maxRecDepth 100000 in
theorem mf_X5_putSeats_2 {a0 : Nat} {hs : Hp} {o : Unit × Hp}  : ∀ (n : Nat) {a1 : Nat} {x2 : Int32} {x3 : Int32}  {h : Hp}, Fc a0 (a0 + 2) [] hs h → lp (F := Nat → Nat → Int32 → Int32 → Hp → Option (Unit × Hp)) (fun _ _ _ _ _ => none) (f_X5_putSeats_2) n a0 a1 x2 x3 h = some o → Fc a0 (a0 + 2) [] hs o.2 := by
  intro n
  induction n with
  | zero =>
    intro a1 x2 x3  h hF hf
    have hf : (none : Option (Unit × Hp)) = some o := hf
    cases hf
  | succ n hk2 =>
    intro a1 x2 x3  h hF hf
    have hf : f_X5_putSeats_2  (lp (F := Nat → Nat → Int32 → Int32 → Hp → Option (Unit × Hp)) (fun _ _ _ _ _ => none) (f_X5_putSeats_2) n) a0 a1 x2 x3 h = some o := hf
    unfold f_X5_putSeats_2 at hf
    rcases ite_or hf with hf | hf
    · obtain rfl := Option.some.inj hf
      exact hF
    · rcases ite_or hf with hf | hf
      · exact mf_X5_putSeats_18 hk2 hF hf
      · obtain ⟨q1, e9, hf⟩ := Option.bind_eq_some_iff.mp hf
        have hF := hF.trans ((mf_X5_putByte e9).mono (by omega) (by omega) (fun k hk => by simp at hk))
        clear e9
        exact mf_X5_putSeats_18 hk2 hF hf
set_option maxRecDepth 100000 in
theorem mf_X5_putSeats {a0 : Nat} {a1 : Nat} {x2 : Int32} {h : Hp} {o : Unit × Hp} (hf : f_X5_putSeats a0 a1 x2 h = some o) : Fc a0 (a0 + 2) [] h o.2 := by
  have hF : Fc a0 (a0 + 2) [] h h := Fc.refl
  unfold f_X5_putSeats at hf
  exact mf_X5_putSeats_2  1000 hF hf
set_option maxRecDepth 100000 in
theorem mf_X6_makeRow {a0 : Nat} {x1 : Int32} {x2 : Int32} {h : Hp} {o : Unit × Hp} (hf : f_X6_makeRow a0 x1 x2 h = some o) : Fc a0 (a0 + 7) [] h o.2 := by
  have hF : Fc a0 (a0 + 7) [] h h := Fc.refl
  unfold f_X6_makeRow at hf
  obtain ⟨hg, hf⟩ := ite_some hf
  have hg := ix_lt hg
  obtain ⟨q2, e9, hf⟩ := Option.bind_eq_some_iff.mp hf
  have hF := hF.trans ((mf_J7_fill_53178 e9).mono0 (fun k hk => by simp only [List.mem_cons, List.not_mem_nil, or_false] at hk; first | (left; omega) | (right; simp only [List.mem_cons, List.not_mem_nil, or_false]; omega)))
  clear e9
  obtain ⟨hg, hf⟩ := ite_some hf
  have hg := ix_lt hg
  obtain ⟨m3, em, hf⟩ := lt_e hf
  have hF := Fc_sI hF em (Or.inl (by omega))
  clear em
  obtain rfl := Option.some.inj hf
  exact hF
set_option maxRecDepth 100000 in
theorem mf_X6_put {a0 : Nat} {x1 : Int32} {x2 : Int32} {x3 : Int32} {h : Hp} {o : Int32 × Hp} (hf : f_X6_put a0 x1 x2 x3 h = some o) : Fc a0 (a0 + 7) [] h o.2 := by
  have hF : Fc a0 (a0 + 7) [] h h := Fc.refl
  unfold f_X6_put at hf
  obtain ⟨q1, e9, hf⟩ := Option.bind_eq_some_iff.mp hf
  have e9 := mf_X6_hasPlace e9
  have hF := hF.eqr e9
  clear e9
  rcases ite_or hf with hf | hf
  · obtain ⟨-, hf⟩ := ite_some hf
    obtain rfl := Option.some.inj hf
    exact hF
  · obtain ⟨hg, hf⟩ := ite_some hf
    have hg := ix_lt hg
    obtain ⟨-, hf⟩ := ite_some hf
    obtain ⟨m3, em, hf⟩ := lt_e hf
    have hF := Fc_sI hF em (Or.inl (by omega))
    clear em
    obtain ⟨-, hf⟩ := ite_some hf
    obtain rfl := Option.some.inj hf
    exact hF
set_option maxRecDepth 100000 in
theorem mf_X7_figuresAt_2  {hs : Hp} {o : Int32 × Hp}  : ∀ (n : Nat) {a0 : Nat} {x1 : Int32} {x2 : Int32}  {h : Hp}, Fc 0 0 [] hs h → lp (F := Nat → Int32 → Int32 → Hp → Option (Int32 × Hp)) (fun _ _ _ _ => none) (f_X7_figuresAt_2) n a0 x1 x2 h = some o → Fc 0 0 [] hs o.2 := by
  intro n
  induction n with
  | zero =>
    intro a0 x1 x2  h hF hf
    have hf : (none : Option (Int32 × Hp)) = some o := hf
    cases hf
  | succ n hk2 =>
    intro a0 x1 x2  h hF hf
    have hf : f_X7_figuresAt_2  (lp (F := Nat → Int32 → Int32 → Hp → Option (Int32 × Hp)) (fun _ _ _ _ => none) (f_X7_figuresAt_2) n) a0 x1 x2 h = some o := hf
    unfold f_X7_figuresAt_2 at hf
    rcases ite_or hf with hf | hf
    · obtain rfl := Option.some.inj hf
      exact hF
    · rcases ite_or hf with hf | hf
      · obtain rfl := Option.some.inj hf
        exact hF
      · obtain ⟨-, hf⟩ := ite_some hf
        obtain ⟨q1, e9, hf⟩ := Option.bind_eq_some_iff.mp hf
        have e9 := mf_X7_isFigure e9
        have hF := hF.eqr e9
        clear e9
        rcases ite_or hf with hf | hf
        · obtain rfl := Option.some.inj hf
          exact hF
        · obtain ⟨v2, -, hf⟩ := lt_e hf
          exact hk2 hF hf
set_option maxRecDepth 100000 in
theorem mf_X7_figuresAt {a0 : Nat} {x1 : Int32} {h : Hp} {o : Int32 × Hp} (hf : f_X7_figuresAt a0 x1 h = some o) : h = o.2 := by
  refine Fc_eq ?_
  have hF : Fc 0 0 [] h h := Fc.refl
  unfold f_X7_figuresAt at hf
  exact mf_X7_figuresAt_2  1000 hF hf
set_option maxRecDepth 100000 in
theorem mf_X8_bar {a0 : Nat} {x1 : Int32} {h : Hp} {o : Int32 × Hp} (hf : f_X8_bar a0 x1 h = some o) : Fc a0 (a0 + 108) [] h o.2 := by
  have hF : Fc a0 (a0 + 108) [] h h := Fc.refl
  unfold f_X8_bar at hf
  obtain ⟨q1, e9, hf⟩ := Option.bind_eq_some_iff.mp hf
  have e9 := mf_X8_within e9
  have hF := hF.eqr e9
  clear e9
  rcases ite_or hf with hf | hf
  · obtain rfl := Option.some.inj hf
    exact hF
  · obtain ⟨v2, -, hf⟩ := lt_e hf
    obtain ⟨m3, em, hf⟩ := lt_e hf
    have hF := Fc_sI hF em (Or.inl (by omega))
    clear em
    obtain ⟨q4, e9, hf⟩ := Option.bind_eq_some_iff.mp hf
    have hF := hF.trans ((mf_X2_forget e9).mono (by omega) (by omega) (fun k hk => by simp at hk))
    clear e9
    obtain rfl := Option.some.inj hf
    exact hF
set_option maxRecDepth 100000 in
theorem mf_X8_comparePrices_20  {hs : Hp} {o : Int32 × Hp}  {x0 : Int64} {x2 : Int64} {x4 : Int64} {x6 : Int64}  {h : Hp} (hF : Fc 0 0 [] hs h) (hf : f_X8_comparePrices_20  x0 x2 x4 x6 h = some o) : Fc 0 0 [] hs o.2 := by
  unfold f_X8_comparePrices_20 at hf
  rcases ite_or hf with hf | hf
  · obtain rfl := Option.some.inj hf
    exact hF
  · rcases ite_or hf with hf | hf
    · obtain rfl := Option.some.inj hf
      exact hF
    · obtain ⟨q2, e9, hf⟩ := Option.bind_eq_some_iff.mp hf
      have e9 := mf_J13_compare_74951 e9
      have hF := hF.eqr e9
      clear e9
      obtain rfl := Option.some.inj hf
      exact hF
set_option maxRecDepth 100000 in
theorem mf_X8_comparePrices {x0 : Int64} {x2 : Int64} {x4 : Int64} {x6 : Int64} {h : Hp} {o : Int32 × Hp} (hf : f_X8_comparePrices x0 x2 x4 x6 h = some o) : h = o.2 := by
  refine Fc_eq ?_
  have hF : Fc 0 0 [] h h := Fc.refl
  unfold f_X8_comparePrices at hf
  rcases ite_or hf with hf | hf
  · rcases ite_or hf with hf | hf
    · obtain ⟨q1, e9, hf⟩ := Option.bind_eq_some_iff.mp hf
      have e9 := mf_J13_compare_74951 e9
      have hF := hF.eqr e9
      clear e9
      obtain rfl := Option.some.inj hf
      exact hF
    · exact mf_X8_comparePrices_20  hF hf
  · exact mf_X8_comparePrices_20  hF hf
set_option maxRecDepth 100000 in
theorem mf_X8_feed {a0 : Nat} {x1 : Int32} {h : Hp} {o : Int32 × Hp} (hf : f_X8_feed a0 x1 h = some o) : Fc a0 (a0 + 108) [] h o.2 := by
  have hF : Fc a0 (a0 + 108) [] h h := Fc.refl
  unfold f_X8_feed at hf
  rcases ite_or hf with hf | hf
  · obtain rfl := Option.some.inj hf
    exact hF
  · rcases ite_or hf with hf | hf
    · obtain ⟨q1, e9, hf⟩ := Option.bind_eq_some_iff.mp hf
      have hF := hF.trans ((mf_X7_takeByte e9).mono (by omega) (by omega) (fun k hk => by simp at hk))
      clear e9
      rcases ite_or hf with hf | hf
      · obtain rfl := Option.some.inj hf
        exact hF
      · obtain rfl := Option.some.inj hf
        exact hF
    · obtain rfl := Option.some.inj hf
      exact hF
set_option maxRecDepth 100000 in
theorem mf_X8_get {a0 : Nat} {x1 : Int32} {x2 : Int32} {h : Hp} {o : Int64 × Hp} (hf : f_X8_get a0 x1 x2 h = some o) : h = o.2 := by
  refine Fc_eq ?_
  have hF : Fc 0 0 [] h h := Fc.refl
  unfold f_X8_get at hf
  obtain ⟨q1, e9, hf⟩ := Option.bind_eq_some_iff.mp hf
  have e9 := mf_X8_within e9
  have hF := hF.eqr e9
  clear e9
  rcases ite_or hf with hf | hf
  · obtain rfl := Option.some.inj hf
    exact hF
  · obtain ⟨q2, e9, hf⟩ := Option.bind_eq_some_iff.mp hf
    have e9 := mf_X6_hasPlace e9
    have hF := hF.eqr e9
    clear e9
    rcases ite_or hf with hf | hf
    · obtain rfl := Option.some.inj hf
      exact hF
    · obtain ⟨-, hf⟩ := ite_some hf
      obtain ⟨-, hf⟩ := ite_some hf
      obtain rfl := Option.some.inj hf
      exact hF
set_option maxRecDepth 100000 in
theorem mf_X8_join {a0 : Nat} {x1 : Int32} {x2 : Int32} {h : Hp} {o : Int32 × Hp} (hf : f_X8_join a0 x1 x2 h = some o) : Fc a0 (a0 + 108) [] h o.2 := by
  have hF : Fc a0 (a0 + 108) [] h h := Fc.refl
  unfold f_X8_join at hf
  obtain ⟨q1, e9, hf⟩ := Option.bind_eq_some_iff.mp hf
  have e9 := mf_X8_within e9
  have hF := hF.eqr e9
  clear e9
  rcases ite_or hf with hf | hf
  · obtain rfl := Option.some.inj hf
    exact hF
  · obtain ⟨q2, e9, hf⟩ := Option.bind_eq_some_iff.mp hf
    have e9 := mf_X8_within e9
    have hF := hF.eqr e9
    clear e9
    rcases ite_or hf with hf | hf
    · obtain rfl := Option.some.inj hf
      exact hF
    · obtain ⟨-, hf⟩ := ite_some hf
      obtain ⟨v3, -, hf⟩ := lt_e hf
      obtain ⟨-, hf⟩ := ite_some hf
      obtain ⟨m4, em, hf⟩ := lt_e hf
      have hF := Fc_sI hF em (Or.inl (by omega))
      clear em
      obtain ⟨q5, e9, hf⟩ := Option.bind_eq_some_iff.mp hf
      have hF := hF.trans ((mf_X2_forget e9).mono (by omega) (by omega) (fun k hk => by simp at hk))
      clear e9
      obtain rfl := Option.some.inj hf
      exact hF
set_option maxRecDepth 100000 in
theorem mf_X8_least {a0 : Nat} {x1 : Int32} {x2 : Int32} {h : Hp} {o : Int32 × Hp} (hf : f_X8_least a0 x1 x2 h = some o) : Fc a0 (a0 + 108) [] h o.2 := by
  have hF : Fc a0 (a0 + 108) [] h h := Fc.refl
  unfold f_X8_least at hf
  obtain ⟨q1, e9, hf⟩ := Option.bind_eq_some_iff.mp hf
  have e9 := mf_X8_within e9
  have hF := hF.eqr e9
  clear e9
  rcases ite_or hf with hf | hf
  · obtain rfl := Option.some.inj hf
    exact hF
  · obtain ⟨q2, e9, hf⟩ := Option.bind_eq_some_iff.mp hf
    have e9 := mf_X8_within e9
    have hF := hF.eqr e9
    clear e9
    rcases ite_or hf with hf | hf
    · obtain rfl := Option.some.inj hf
      exact hF
    · obtain ⟨-, hf⟩ := ite_some hf
      obtain ⟨v3, -, hf⟩ := lt_e hf
      obtain ⟨-, hf⟩ := ite_some hf
      obtain ⟨m4, em, hf⟩ := lt_e hf
      have hF := Fc_sI hF em (Or.inl (by omega))
      clear em
      obtain ⟨q5, e9, hf⟩ := Option.bind_eq_some_iff.mp hf
      have hF := hF.trans ((mf_X2_forget e9).mono (by omega) (by omega) (fun k hk => by simp at hk))
      clear e9
      obtain rfl := Option.some.inj hf
      exact hF
set_option maxRecDepth 100000 in
theorem mf_X8_lowest {x0 : Int64} {x2 : Int64} {x4 : Int32} {h : Hp} {o : Int64 × Hp} (hf : f_X8_lowest x0 x2 x4 h = some o) : h = o.2 := by
  refine Fc_eq ?_
  have hF : Fc 0 0 [] h h := Fc.refl
  unfold f_X8_lowest at hf
  obtain ⟨q1, e9, hf⟩ := Option.bind_eq_some_iff.mp hf
  have e9 := mf_X8_commonDivisor e9
  have hF := hF.eqr e9
  clear e9
  rcases ite_or hf with hf | hf
  · obtain rfl := Option.some.inj hf
    exact hF
  · rcases ite_or hf with hf | hf
    · obtain rfl := Option.some.inj hf
      exact hF
    · rcases ite_or hf with hf | hf
      · obtain ⟨-, hf⟩ := ite_none hf
        obtain rfl := Option.some.inj hf
        exact hF
      · obtain ⟨-, hf⟩ := ite_none hf
        obtain rfl := Option.some.inj hf
        exact hF
set_option maxRecDepth 100000 in
theorem mf_X8_seats {a0 : Nat} {x1 : Int32} {x2 : Int32} {h : Hp} {o : Int32 × Hp} (hf : f_X8_seats a0 x1 x2 h = some o) : Fc a0 (a0 + 108) [] h o.2 := by
  have hF : Fc a0 (a0 + 108) [] h h := Fc.refl
  unfold f_X8_seats at hf
  obtain ⟨q1, e9, hf⟩ := Option.bind_eq_some_iff.mp hf
  have e9 := mf_X8_within e9
  have hF := hF.eqr e9
  clear e9
  rcases ite_or hf with hf | hf
  · obtain rfl := Option.some.inj hf
    exact hF
  · obtain ⟨q2, e9, hf⟩ := Option.bind_eq_some_iff.mp hf
    have e9 := mf_X8_within e9
    have hF := hF.eqr e9
    clear e9
    rcases ite_or hf with hf | hf
    · obtain rfl := Option.some.inj hf
      exact hF
    · obtain ⟨-, hf⟩ := ite_some hf
      obtain ⟨v3, -, hf⟩ := lt_e hf
      obtain ⟨-, hf⟩ := ite_some hf
      obtain ⟨m4, em, hf⟩ := lt_e hf
      have hF := Fc_sI hF em (Or.inl (by omega))
      clear em
      obtain ⟨q5, e9, hf⟩ := Option.bind_eq_some_iff.mp hf
      have hF := hF.trans ((mf_X2_forget e9).mono (by omega) (by omega) (fun k hk => by simp at hk))
      clear e9
      obtain rfl := Option.some.inj hf
      exact hF
set_option maxRecDepth 100000 in
theorem mf_X8_tell {a0 : Nat} {x1 : Int32} {x2 : Int32} {h : Hp} {o : Int32 × Hp} (hf : f_X8_tell a0 x1 x2 h = some o) : Fc a0 (a0 + 108) [] h o.2 := by
  have hF : Fc a0 (a0 + 108) [] h h := Fc.refl
  unfold f_X8_tell at hf
  obtain ⟨q1, e9, hf⟩ := Option.bind_eq_some_iff.mp hf
  have e9 := mf_X8_within e9
  have hF := hF.eqr e9
  clear e9
  rcases ite_or hf with hf | hf
  · obtain rfl := Option.some.inj hf
    exact hF
  · rcases ite_or hf with hf | hf
    · obtain rfl := Option.some.inj hf
      exact hF
    · rcases ite_or hf with hf | hf
      · obtain rfl := Option.some.inj hf
        exact hF
      · rcases ite_or hf with hf | hf
        · obtain ⟨m2, em, hf⟩ := lt_e hf
          have hF := Fc_sI hF em (Or.inl (by omega))
          clear em
          obtain ⟨m3, em, hf⟩ := lt_e hf
          have hF := Fc_sI hF em (Or.inl (by omega))
          clear em
          obtain ⟨q4, e9, hf⟩ := Option.bind_eq_some_iff.mp hf
          have hF := hF.trans ((mf_X2_forget e9).mono (by omega) (by omega) (fun k hk => by simp at hk))
          clear e9
          obtain rfl := Option.some.inj hf
          exact hF
        · obtain rfl := Option.some.inj hf
          exact hF
set_option maxRecDepth 100000 in
theorem mf_X8_vote {a0 : Nat} {x1 : Int32} {x2 : Int32} {x3 : Int32} {h : Hp} {o : Int32 × Hp} (hf : f_X8_vote a0 x1 x2 x3 h = some o) : Fc a0 (a0 + 108) [] h o.2 := by
  have hF : Fc a0 (a0 + 108) [] h h := Fc.refl
  unfold f_X8_vote at hf
  obtain ⟨q1, e9, hf⟩ := Option.bind_eq_some_iff.mp hf
  have e9 := mf_X8_within e9
  have hF := hF.eqr e9
  clear e9
  rcases ite_or hf with hf | hf
  · obtain rfl := Option.some.inj hf
    exact hF
  · obtain ⟨q2, e9, hf⟩ := Option.bind_eq_some_iff.mp hf
    have e9 := mf_X8_within e9
    have hF := hF.eqr e9
    clear e9
    rcases ite_or hf with hf | hf
    · obtain rfl := Option.some.inj hf
      exact hF
    · obtain ⟨q3, e9, hf⟩ := Option.bind_eq_some_iff.mp hf
      have e9 := mf_X8_within e9
      have hF := hF.eqr e9
      clear e9
      rcases ite_or hf with hf | hf
      · obtain rfl := Option.some.inj hf
        exact hF
      · obtain ⟨q4, e9, hf⟩ := Option.bind_eq_some_iff.mp hf
        have e9 := mf_X8_cellOf e9
        have hF := hF.eqr e9
        clear e9
        obtain ⟨-, hf⟩ := ite_some hf
        obtain ⟨v5, -, hf⟩ := lt_e hf
        obtain ⟨q6, e9, hf⟩ := Option.bind_eq_some_iff.mp hf
        have e9 := mf_X8_cellOf e9
        have hF := hF.eqr e9
        clear e9
        obtain ⟨-, hf⟩ := ite_some hf
        obtain ⟨m7, em, hf⟩ := lt_e hf
        have hF := Fc_sI hF em (Or.inl (by omega))
        clear em
        obtain ⟨q8, e9, hf⟩ := Option.bind_eq_some_iff.mp hf
        have hF := hF.trans ((mf_X2_forget e9).mono (by omega) (by omega) (fun k hk => by simp at hk))
        clear e9
        obtain rfl := Option.some.inj hf
        exact hF
set_option maxRecDepth 100000 in
theorem mf_X8_way {a0 : Nat} {x1 : Int32} {h : Hp} {o : Int32 × Hp} (hf : f_X8_way a0 x1 h = some o) : Fc a0 (a0 + 108) [] h o.2 := by
  have hF : Fc a0 (a0 + 108) [] h h := Fc.refl
  unfold f_X8_way at hf
  obtain ⟨q1, e9, hf⟩ := Option.bind_eq_some_iff.mp hf
  have e9 := mf_X8_within e9
  have hF := hF.eqr e9
  clear e9
  rcases ite_or hf with hf | hf
  · obtain rfl := Option.some.inj hf
    exact hF
  · obtain ⟨v2, -, hf⟩ := lt_e hf
    obtain ⟨m3, em, hf⟩ := lt_e hf
    have hF := Fc_sI hF em (Or.inl (by omega))
    clear em
    obtain ⟨q4, e9, hf⟩ := Option.bind_eq_some_iff.mp hf
    have hF := hF.trans ((mf_X2_forget e9).mono (by omega) (by omega) (fun k hk => by simp at hk))
    clear e9
    obtain rfl := Option.some.inj hf
    exact hF
set_option maxRecDepth 100000 in
theorem mf_X0_dearest_90 {a0 : Nat} {hs : Hp} {o : Int32 × Hp} {k4 : Nat → Int32 → Int32 → Hp → Option (Int32 × Hp)} (hk4 : ∀ {x1 : Int32} {x2 : Int32}  {h : Hp}, Fc a0 (a0 + 9) [] hs h → k4 a0 x1 x2 h = some o → Fc a0 (a0 + 9) [] hs o.2) {x1 : Int32} {x2 : Int32}  {h : Hp} (hF : Fc a0 (a0 + 9) [] hs h) (hf : f_X0_dearest_90 k4 a0 x1 x2 h = some o) : Fc a0 (a0 + 9) [] hs o.2 := by
  unfold f_X0_dearest_90 at hf
  obtain ⟨v3, -, hf⟩ := lt_e hf
  exact hk4 hF hf
set_option maxRecDepth 100000 in
theorem mf_X0_dearest_59 {a0 : Nat} {hs : Hp} {o : Int32 × Hp} {k4 : Nat → Int32 → Int32 → Hp → Option (Int32 × Hp)} (hk4 : ∀ {x1 : Int32} {x2 : Int32}  {h : Hp}, Fc a0 (a0 + 9) [] hs h → k4 a0 x1 x2 h = some o → Fc a0 (a0 + 9) [] hs o.2) {x1 : Int32} {x2 : Int32} {y0 : Int32}  {h : Hp} (hF : Fc a0 (a0 + 9) [] hs h) (hf : f_X0_dearest_59 k4 a0 x1 x2 y0 h = some o) : Fc a0 (a0 + 9) [] hs o.2 := by
  unfold f_X0_dearest_59 at hf
  rcases ite_or hf with hf | hf
  · rcases ite_or hf with hf | hf
    · obtain ⟨m4, em, hf⟩ := lt_e hf
      have hF := Fc_sI hF em (Or.inl (by omega))
      clear em
      exact mf_X0_dearest_90 hk4 hF hf
    · exact mf_X0_dearest_90 hk4 hF hf
  · obtain ⟨m5, em, hf⟩ := lt_e hf
    have hF := Fc_sI hF em (Or.inl (by omega))
    clear em
    exact mf_X0_dearest_90 hk4 hF hf
set_option maxRecDepth 100000 in
theorem mf_X0_dearest_4 {a0 : Nat} {hs : Hp} {o : Int32 × Hp}  : ∀ (n : Nat) {x1 : Int32} {x2 : Int32}  {h : Hp}, Fc a0 (a0 + 9) [] hs h → lp (F := Nat → Int32 → Int32 → Hp → Option (Int32 × Hp)) (fun _ _ _ _ => none) (f_X0_dearest_4) n a0 x1 x2 h = some o → Fc a0 (a0 + 9) [] hs o.2 := by
  intro n
  induction n with
  | zero =>
    intro x1 x2  h hF hf
    have hf : (none : Option (Int32 × Hp)) = some o := hf
    cases hf
  | succ n hk4 =>
    intro x1 x2  h hF hf
    have hf : f_X0_dearest_4  (lp (F := Nat → Int32 → Int32 → Hp → Option (Int32 × Hp)) (fun _ _ _ _ => none) (f_X0_dearest_4) n) a0 x1 x2 h = some o := hf
    unfold f_X0_dearest_4 at hf
    rcases ite_or hf with hf | hf
    · obtain rfl := Option.some.inj hf
      exact hF
    · obtain ⟨q1, e9, hf⟩ := Option.bind_eq_some_iff.mp hf
      have e9 := mf_X8_holds e9
      have hF := hF.eqr e9
      clear e9
      rcases ite_or hf with hf | hf
      · exact mf_X0_dearest_90 hk4 hF hf
      · rcases ite_or hf with hf | hf
        · obtain ⟨-, hf⟩ := ite_some hf
          obtain ⟨-, hf⟩ := ite_some hf
          obtain ⟨-, hf⟩ := ite_some hf
          obtain ⟨-, hf⟩ := ite_some hf
          obtain ⟨q2, e9, hf⟩ := Option.bind_eq_some_iff.mp hf
          have e9 := mf_X8_comparePrices e9
          have hF := hF.eqr e9
          clear e9
          exact mf_X0_dearest_59 hk4 hF hf
        · exact mf_X0_dearest_59 hk4 hF hf
set_option maxRecDepth 100000 in
theorem mf_X0_dearest {a0 : Nat} {h : Hp} {o : Int32 × Hp} (hf : f_X0_dearest a0 h = some o) : Fc a0 (a0 + 9) [] h o.2 := by
  have hF : Fc a0 (a0 + 9) [] h h := Fc.refl
  unfold f_X0_dearest at hf
  exact mf_X0_dearest_4  1000 hF hf
set_option maxRecDepth 100000 in
theorem mf_X0_edge_151  {hs : Hp} {o : Int64 × Hp} {k12 : Nat → Nat → Int32 → Int32 → Int32 → Int64 → Int64 → Int32 → Int32 → Hp → Option (Int64 × Hp)} (hk12 : ∀ {a0 : Nat} {a1 : Nat} {x2 : Int32} {x3 : Int32} {x4 : Int32} {x5 : Int64} {x7 : Int64} {x9 : Int32} {x10 : Int32}  {h : Hp}, Fc 0 0 [] hs h → k12 a0 a1 x2 x3 x4 x5 x7 x9 x10 h = some o → Fc 0 0 [] hs o.2) {a0 : Nat} {a1 : Nat} {x2 : Int32} {x3 : Int32} {x4 : Int32} {x5 : Int64} {x7 : Int64} {x9 : Int32} {x10 : Int32}  {h : Hp} (hF : Fc 0 0 [] hs h) (hf : f_X0_edge_151 k12 a0 a1 x2 x3 x4 x5 x7 x9 x10 h = some o) : Fc 0 0 [] hs o.2 := by
  unfold f_X0_edge_151 at hf
  obtain ⟨v3, -, hf⟩ := lt_e hf
  exact hk12 hF hf
set_option maxRecDepth 100000 in
theorem mf_X0_edge_140  {hs : Hp} {o : Int64 × Hp} {k12 : Nat → Nat → Int32 → Int32 → Int32 → Int64 → Int64 → Int32 → Int32 → Hp → Option (Int64 × Hp)} (hk12 : ∀ {a0 : Nat} {a1 : Nat} {x2 : Int32} {x3 : Int32} {x4 : Int32} {x5 : Int64} {x7 : Int64} {x9 : Int32} {x10 : Int32}  {h : Hp}, Fc 0 0 [] hs h → k12 a0 a1 x2 x3 x4 x5 x7 x9 x10 h = some o → Fc 0 0 [] hs o.2) {a0 : Nat} {a1 : Nat} {x2 : Int32} {x3 : Int32} {x4 : Int32} {x10 : Int32} {x12 : Int64} {x14 : Int64}  {h : Hp} (hF : Fc 0 0 [] hs h) (hf : f_X0_edge_140 k12 a0 a1 x2 x3 x4 x10 x12 x14 h = some o) : Fc 0 0 [] hs o.2 := by
  unfold f_X0_edge_140 at hf
  exact mf_X0_edge_151 hk12 hF hf
set_option maxRecDepth 100000 in
theorem mf_X0_edge_78  {hs : Hp} {o : Int64 × Hp} {k12 : Nat → Nat → Int32 → Int32 → Int32 → Int64 → Int64 → Int32 → Int32 → Hp → Option (Int64 × Hp)} (hk12 : ∀ {a0 : Nat} {a1 : Nat} {x2 : Int32} {x3 : Int32} {x4 : Int32} {x5 : Int64} {x7 : Int64} {x9 : Int32} {x10 : Int32}  {h : Hp}, Fc 0 0 [] hs h → k12 a0 a1 x2 x3 x4 x5 x7 x9 x10 h = some o → Fc 0 0 [] hs o.2) {a0 : Nat} {a1 : Nat} {x2 : Int32} {x3 : Int32} {x4 : Int32} {x5 : Int64} {x7 : Int64} {x9 : Int32} {x10 : Int32} {y0 : Int32}  {h : Hp} (hF : Fc 0 0 [] hs h) (hf : f_X0_edge_78 k12 a0 a1 x2 x3 x4 x5 x7 x9 x10 y0 h = some o) : Fc 0 0 [] hs o.2 := by
  unfold f_X0_edge_78 at hf
  obtain ⟨-, hf⟩ := ite_some hf
  obtain ⟨q4, e9, hf⟩ := Option.bind_eq_some_iff.mp hf
  have e9 := mf_X3_priceAbove e9
  have hF := hF.eqr e9
  clear e9
  obtain ⟨q5, e9, hf⟩ := Option.bind_eq_some_iff.mp hf
  have e9 := mf_X3_markAbove e9
  have hF := hF.eqr e9
  clear e9
  obtain ⟨q6, e9, hf⟩ := Option.bind_eq_some_iff.mp hf
  have e9 := mf_X8_comparePrices e9
  have hF := hF.eqr e9
  clear e9
  rcases ite_or hf with hf | hf
  · exact mf_X0_edge_140 hk12 hF hf
  · rcases ite_or hf with hf | hf
    · rcases ite_or hf with hf | hf
      · exact mf_X0_edge_151 hk12 hF hf
      · exact mf_X0_edge_140 hk12 hF hf
    · rcases ite_or hf with hf | hf
      · exact mf_X0_edge_151 hk12 hF hf
      · exact mf_X0_edge_140 hk12 hF hf
set_option maxRecDepth 100000 in
theorem mf_X0_edge_55  {hs : Hp} {o : Int64 × Hp} {k12 : Nat → Nat → Int32 → Int32 → Int32 → Int64 → Int64 → Int32 → Int32 → Hp → Option (Int64 × Hp)} (hk12 : ∀ {a0 : Nat} {a1 : Nat} {x2 : Int32} {x3 : Int32} {x4 : Int32} {x5 : Int64} {x7 : Int64} {x9 : Int32} {x10 : Int32}  {h : Hp}, Fc 0 0 [] hs h → k12 a0 a1 x2 x3 x4 x5 x7 x9 x10 h = some o → Fc 0 0 [] hs o.2) {a0 : Nat} {a1 : Nat} {x2 : Int32} {x3 : Int32} {x4 : Int32} {x5 : Int64} {x7 : Int64} {x9 : Int32} {x10 : Int32}  {h : Hp} (hF : Fc 0 0 [] hs h) (hf : f_X0_edge_55 k12 a0 a1 x2 x3 x4 x5 x7 x9 x10 h = some o) : Fc 0 0 [] hs o.2 := by
  unfold f_X0_edge_55 at hf
  rcases ite_or hf with hf | hf
  · obtain ⟨-, hf⟩ := ite_some hf
    exact mf_X0_edge_78 hk12 hF hf
  · obtain ⟨-, hf⟩ := ite_some hf
    exact mf_X0_edge_78 hk12 hF hf
set_option maxRecDepth 100000 in
theorem mf_X0_edge_12  {hs : Hp} {o : Int64 × Hp}  : ∀ (n : Nat) {a0 : Nat} {a1 : Nat} {x2 : Int32} {x3 : Int32} {x4 : Int32} {x5 : Int64} {x7 : Int64} {x9 : Int32} {x10 : Int32}  {h : Hp}, Fc 0 0 [] hs h → lp (F := Nat → Nat → Int32 → Int32 → Int32 → Int64 → Int64 → Int32 → Int32 → Hp → Option (Int64 × Hp)) (fun _ _ _ _ _ _ _ _ _ _ => none) (f_X0_edge_12) n a0 a1 x2 x3 x4 x5 x7 x9 x10 h = some o → Fc 0 0 [] hs o.2 := by
  intro n
  induction n with
  | zero =>
    intro a0 a1 x2 x3 x4 x5 x7 x9 x10  h hF hf
    have hf : (none : Option (Int64 × Hp)) = some o := hf
    cases hf
  | succ n hk12 =>
    intro a0 a1 x2 x3 x4 x5 x7 x9 x10  h hF hf
    have hf : f_X0_edge_12  (lp (F := Nat → Nat → Int32 → Int32 → Int32 → Int64 → Int64 → Int32 → Int32 → Hp → Option (Int64 × Hp)) (fun _ _ _ _ _ _ _ _ _ _ => none) (f_X0_edge_12) n) a0 a1 x2 x3 x4 x5 x7 x9 x10 h = some o := hf
    unfold f_X0_edge_12 at hf
    rcases ite_or hf with hf | hf
    · rcases ite_or hf with hf | hf
      · obtain rfl := Option.some.inj hf
        exact hF
      · obtain ⟨q1, e9, hf⟩ := Option.bind_eq_some_iff.mp hf
        have e9 := mf_X8_lowest e9
        have hF := hF.eqr e9
        clear e9
        obtain rfl := Option.some.inj hf
        exact hF
    · obtain ⟨q2, e9, hf⟩ := Option.bind_eq_some_iff.mp hf
      have e9 := mf_X8_holds e9
      have hF := hF.eqr e9
      clear e9
      rcases ite_or hf with hf | hf
      · exact mf_X0_edge_151 hk12 hF hf
      · rcases ite_or hf with hf | hf
        · obtain ⟨-, hf⟩ := ite_some hf
          obtain ⟨-, hf⟩ := ite_some hf
          rcases ite_or hf with hf | hf
          · exact mf_X0_edge_55 hk12 hF hf
          · exact mf_X0_edge_151 hk12 hF hf
        · exact mf_X0_edge_55 hk12 hF hf
set_option maxRecDepth 100000 in
theorem mf_X0_edge {a0 : Nat} {a1 : Nat} {x2 : Int32} {x3 : Int32} {x4 : Int32} {h : Hp} {o : Int64 × Hp} (hf : f_X0_edge a0 a1 x2 x3 x4 h = some o) : h = o.2 := by
  refine Fc_eq ?_
  have hF : Fc 0 0 [] h h := Fc.refl
  unfold f_X0_edge at hf
  exact mf_X0_edge_12  1000 hF hf
set_option maxRecDepth 100000 in
theorem mf_X1_enterLists_50 {a0 : Nat} {hs : Hp} {o : Unit × Hp} {k9 : Nat → Nat → Int32 → Hp → Option (Unit × Hp)} (hk9 : ∀ {a1 : Nat} {x2 : Int32}  {h : Hp}, Fc a0 (a0 + 20) [] hs h → k9 a0 a1 x2 h = some o → Fc a0 (a0 + 20) [] hs o.2) {a1 : Nat} {x2 : Int32}  {h : Hp} (hF : Fc a0 (a0 + 20) [] hs h) (hf : f_X1_enterLists_50 k9 a0 a1 x2 h = some o) : Fc a0 (a0 + 20) [] hs o.2 := by
  unfold f_X1_enterLists_50 at hf
  obtain ⟨v5, -, hf⟩ := lt_e hf
  exact hk9 hF hf
set_option maxRecDepth 100000 in
theorem mf_X1_enterLists_9 {a0 : Nat} {hs : Hp} {o : Unit × Hp}  : ∀ (n : Nat) {a1 : Nat} {x2 : Int32}  {h : Hp}, Fc a0 (a0 + 20) [] hs h → lp (F := Nat → Nat → Int32 → Hp → Option (Unit × Hp)) (fun _ _ _ _ => none) (f_X1_enterLists_9) n a0 a1 x2 h = some o → Fc a0 (a0 + 20) [] hs o.2 := by
  intro n
  induction n with
  | zero =>
    intro a1 x2  h hF hf
    have hf : (none : Option (Unit × Hp)) = some o := hf
    cases hf
  | succ n hk9 =>
    intro a1 x2  h hF hf
    have hf : f_X1_enterLists_9  (lp (F := Nat → Nat → Int32 → Hp → Option (Unit × Hp)) (fun _ _ _ _ => none) (f_X1_enterLists_9) n) a0 a1 x2 h = some o := hf
    unfold f_X1_enterLists_9 at hf
    rcases ite_or hf with hf | hf
    · obtain rfl := Option.some.inj hf
      exact hF
    · obtain ⟨q2, e9, hf⟩ := Option.bind_eq_some_iff.mp hf
      have e9 := mf_X8_holds e9
      have hF := hF.eqr e9
      clear e9
      rcases ite_or hf with hf | hf
      · exact mf_X1_enterLists_50 hk9 hF hf
      · obtain ⟨-, hf⟩ := ite_some hf
        obtain ⟨q3, e9, hf⟩ := Option.bind_eq_some_iff.mp hf
        have e9 := mf_X3_totalOf e9
        have hF := hF.eqr e9
        clear e9
        obtain ⟨-, hf⟩ := ite_some hf
        obtain ⟨q4, e9, hf⟩ := Option.bind_eq_some_iff.mp hf
        have hF := hF.trans ((mf_X0_enter e9).mono (by omega) (by omega) (fun k hk => by simp at hk))
        clear e9
        exact mf_X1_enterLists_50 hk9 hF hf
set_option maxRecDepth 100000 in
theorem mf_X1_enterLists {a0 : Nat} {a1 : Nat} {h : Hp} {o : Unit × Hp} (hf : f_X1_enterLists a0 a1 h = some o) : Fc a0 (a0 + 20) [] h o.2 := by
  have hF : Fc a0 (a0 + 20) [] h h := Fc.refl
  unfold f_X1_enterLists at hf
  obtain ⟨q1, e9, hf⟩ := Option.bind_eq_some_iff.mp hf
  have hF := hF.trans ((mf_X0_empty e9).mono (by omega) (by omega) (fun k hk => by simp at hk))
  clear e9
  exact mf_X1_enterLists_9  1000 hF hf
set_option maxRecDepth 100000 in
theorem mf_X1_enterMembers_55 {a0 : Nat} {hs : Hp} {o : Unit × Hp} {k9 : Nat → Nat → Int32 → Int32 → Hp → Option (Unit × Hp)} (hk9 : ∀ {a1 : Nat} {x2 : Int32} {x3 : Int32}  {h : Hp}, Fc a0 (a0 + 20) [] hs h → k9 a0 a1 x2 x3 h = some o → Fc a0 (a0 + 20) [] hs o.2) {a1 : Nat} {x2 : Int32} {x3 : Int32}  {h : Hp} (hF : Fc a0 (a0 + 20) [] hs h) (hf : f_X1_enterMembers_55 k9 a0 a1 x2 x3 h = some o) : Fc a0 (a0 + 20) [] hs o.2 := by
  unfold f_X1_enterMembers_55 at hf
  obtain ⟨v5, -, hf⟩ := lt_e hf
  exact hk9 hF hf
set_option maxRecDepth 100000 in
theorem mf_X1_enterMembers_9 {a0 : Nat} {hs : Hp} {o : Unit × Hp}  : ∀ (n : Nat) {a1 : Nat} {x2 : Int32} {x3 : Int32}  {h : Hp}, Fc a0 (a0 + 20) [] hs h → lp (F := Nat → Nat → Int32 → Int32 → Hp → Option (Unit × Hp)) (fun _ _ _ _ _ => none) (f_X1_enterMembers_9) n a0 a1 x2 x3 h = some o → Fc a0 (a0 + 20) [] hs o.2 := by
  intro n
  induction n with
  | zero =>
    intro a1 x2 x3  h hF hf
    have hf : (none : Option (Unit × Hp)) = some o := hf
    cases hf
  | succ n hk9 =>
    intro a1 x2 x3  h hF hf
    have hf : f_X1_enterMembers_9  (lp (F := Nat → Nat → Int32 → Int32 → Hp → Option (Unit × Hp)) (fun _ _ _ _ _ => none) (f_X1_enterMembers_9) n) a0 a1 x2 x3 h = some o := hf
    unfold f_X1_enterMembers_9 at hf
    rcases ite_or hf with hf | hf
    · obtain rfl := Option.some.inj hf
      exact hF
    · obtain ⟨q2, e9, hf⟩ := Option.bind_eq_some_iff.mp hf
      have e9 := mf_X8_holds e9
      have hF := hF.eqr e9
      clear e9
      rcases ite_or hf with hf | hf
      · exact mf_X1_enterMembers_55 hk9 hF hf
      · obtain ⟨-, hf⟩ := ite_some hf
        rcases ite_or hf with hf | hf
        · obtain ⟨q3, e9, hf⟩ := Option.bind_eq_some_iff.mp hf
          have e9 := mf_X3_totalOf e9
          have hF := hF.eqr e9
          clear e9
          obtain ⟨-, hf⟩ := ite_some hf
          obtain ⟨q4, e9, hf⟩ := Option.bind_eq_some_iff.mp hf
          have hF := hF.trans ((mf_X0_enter e9).mono (by omega) (by omega) (fun k hk => by simp at hk))
          clear e9
          exact mf_X1_enterMembers_55 hk9 hF hf
        · exact mf_X1_enterMembers_55 hk9 hF hf
set_option maxRecDepth 100000 in
theorem mf_X1_enterMembers {a0 : Nat} {a1 : Nat} {x2 : Int32} {h : Hp} {o : Unit × Hp} (hf : f_X1_enterMembers a0 a1 x2 h = some o) : Fc a0 (a0 + 20) [] h o.2 := by
  have hF : Fc a0 (a0 + 20) [] h h := Fc.refl
  unfold f_X1_enterMembers at hf
  obtain ⟨q1, e9, hf⟩ := Option.bind_eq_some_iff.mp hf
  have hF := hF.trans ((mf_X0_empty e9).mono (by omega) (by omega) (fun k hk => by simp at hk))
  clear e9
  exact mf_X1_enterMembers_9  1000 hF hf
set_option maxRecDepth 100000 in
theorem mf_X1_outsideQuota_149  {hs : Hp} {o : Int32 × Hp} {k46 : Nat → Nat → Int32 → Int64 → Int32 → Int32 → Hp → Option (Int32 × Hp)} (hk46 : ∀ {a0 : Nat} {a1 : Nat} {x2 : Int32} {x3 : Int64} {x5 : Int32} {x6 : Int32}  {h : Hp}, Fc 0 0 [] hs h → k46 a0 a1 x2 x3 x5 x6 h = some o → Fc 0 0 [] hs o.2) {a0 : Nat} {a1 : Nat} {x2 : Int32} {x3 : Int64} {x5 : Int32} {x6 : Int32}  {h : Hp} (hF : Fc 0 0 [] hs h) (hf : f_X1_outsideQuota_149 k46 a0 a1 x2 x3 x5 x6 h = some o) : Fc 0 0 [] hs o.2 := by
  unfold f_X1_outsideQuota_149 at hf
  obtain ⟨v8, -, hf⟩ := lt_e hf
  exact hk46 hF hf
set_option maxRecDepth 100000 in
theorem mf_X1_outsideQuota_140  {hs : Hp} {o : Int32 × Hp} {k46 : Nat → Nat → Int32 → Int64 → Int32 → Int32 → Hp → Option (Int32 × Hp)} (hk46 : ∀ {a0 : Nat} {a1 : Nat} {x2 : Int32} {x3 : Int64} {x5 : Int32} {x6 : Int32}  {h : Hp}, Fc 0 0 [] hs h → k46 a0 a1 x2 x3 x5 x6 h = some o → Fc 0 0 [] hs o.2) {a0 : Nat} {a1 : Nat} {x2 : Int32} {x3 : Int64} {x5 : Int32} {x6 : Int32}  {h : Hp} (hF : Fc 0 0 [] hs h) (hf : f_X1_outsideQuota_140 k46 a0 a1 x2 x3 x5 x6 h = some o) : Fc 0 0 [] hs o.2 := by
  unfold f_X1_outsideQuota_140 at hf
  obtain ⟨v9, -, hf⟩ := lt_e hf
  exact mf_X1_outsideQuota_149 hk46 hF hf
set_option maxRecDepth 100000 in
theorem mf_X1_outsideQuota_110  {hs : Hp} {o : Int32 × Hp} {k46 : Nat → Nat → Int32 → Int64 → Int32 → Int32 → Hp → Option (Int32 × Hp)} (hk46 : ∀ {a0 : Nat} {a1 : Nat} {x2 : Int32} {x3 : Int64} {x5 : Int32} {x6 : Int32}  {h : Hp}, Fc 0 0 [] hs h → k46 a0 a1 x2 x3 x5 x6 h = some o → Fc 0 0 [] hs o.2) {a0 : Nat} {a1 : Nat} {x2 : Int32} {x3 : Int64} {x5 : Int32} {x6 : Int32} {x9 : Int64} {y0 : Int64}  {h : Hp} (hF : Fc 0 0 [] hs h) (hf : f_X1_outsideQuota_110 k46 a0 a1 x2 x3 x5 x6 x9 y0 h = some o) : Fc 0 0 [] hs o.2 := by
  unfold f_X1_outsideQuota_110 at hf
  obtain ⟨-, hf⟩ := ite_some hf
  rcases ite_or hf with hf | hf
  · exact mf_X1_outsideQuota_140 hk46 hF hf
  · obtain ⟨-, hf⟩ := ite_some hf
    rcases ite_or hf with hf | hf
    · exact mf_X1_outsideQuota_149 hk46 hF hf
    · exact mf_X1_outsideQuota_140 hk46 hF hf
set_option maxRecDepth 100000 in
theorem mf_X1_outsideQuota_46  {hs : Hp} {o : Int32 × Hp}  : ∀ (n : Nat) {a0 : Nat} {a1 : Nat} {x2 : Int32} {x3 : Int64} {x5 : Int32} {x6 : Int32}  {h : Hp}, Fc 0 0 [] hs h → lp (F := Nat → Nat → Int32 → Int64 → Int32 → Int32 → Hp → Option (Int32 × Hp)) (fun _ _ _ _ _ _ _ => none) (f_X1_outsideQuota_46) n a0 a1 x2 x3 x5 x6 h = some o → Fc 0 0 [] hs o.2 := by
  intro n
  induction n with
  | zero =>
    intro a0 a1 x2 x3 x5 x6  h hF hf
    have hf : (none : Option (Int32 × Hp)) = some o := hf
    cases hf
  | succ n hk46 =>
    intro a0 a1 x2 x3 x5 x6  h hF hf
    have hf : f_X1_outsideQuota_46  (lp (F := Nat → Nat → Int32 → Int64 → Int32 → Int32 → Hp → Option (Int32 × Hp)) (fun _ _ _ _ _ _ _ => none) (f_X1_outsideQuota_46) n) a0 a1 x2 x3 x5 x6 h = some o := hf
    unfold f_X1_outsideQuota_46 at hf
    rcases ite_or hf with hf | hf
    · obtain rfl := Option.some.inj hf
      exact hF
    · obtain ⟨q4, e9, hf⟩ := Option.bind_eq_some_iff.mp hf
      have e9 := mf_X8_holds e9
      have hF := hF.eqr e9
      clear e9
      rcases ite_or hf with hf | hf
      · exact mf_X1_outsideQuota_149 hk46 hF hf
      · rcases ite_or hf with hf | hf
        · exact mf_X1_outsideQuota_149 hk46 hF hf
        · obtain ⟨q5, e9, hf⟩ := Option.bind_eq_some_iff.mp hf
          have e9 := mf_X3_totalOf e9
          have hF := hF.eqr e9
          clear e9
          obtain ⟨v6, -, hf⟩ := lt_e hf
          obtain ⟨-, hf⟩ := ite_none hf
          obtain ⟨v7, -, hf⟩ := lt_e hf
          obtain ⟨-, hf⟩ := ite_none hf
          rcases ite_or hf with hf | hf
          · exact mf_X1_outsideQuota_110 hk46 hF hf
          · exact mf_X1_outsideQuota_110 hk46 hF hf
set_option maxRecDepth 100000 in
theorem mf_X1_outsideQuota_34  {hs : Hp} {o : Int32 × Hp} {k5 : Nat → Nat → Int32 → Int64 → Int32 → Hp → Option (Int32 × Hp)} (hk5 : ∀ {a0 : Nat} {a1 : Nat} {x2 : Int32} {x3 : Int64} {x5 : Int32}  {h : Hp}, Fc 0 0 [] hs h → k5 a0 a1 x2 x3 x5 h = some o → Fc 0 0 [] hs o.2) {a0 : Nat} {a1 : Nat} {x2 : Int32} {x3 : Int64} {x5 : Int32}  {h : Hp} (hF : Fc 0 0 [] hs h) (hf : f_X1_outsideQuota_34 k5 a0 a1 x2 x3 x5 h = some o) : Fc 0 0 [] hs o.2 := by
  unfold f_X1_outsideQuota_34 at hf
  obtain ⟨v10, -, hf⟩ := lt_e hf
  exact hk5 hF hf
set_option maxRecDepth 100000 in
theorem mf_X1_outsideQuota_5  {hs : Hp} {o : Int32 × Hp}  : ∀ (n : Nat) {a0 : Nat} {a1 : Nat} {x2 : Int32} {x3 : Int64} {x5 : Int32}  {h : Hp}, Fc 0 0 [] hs h → lp (F := Nat → Nat → Int32 → Int64 → Int32 → Hp → Option (Int32 × Hp)) (fun _ _ _ _ _ _ => none) (f_X1_outsideQuota_5) n a0 a1 x2 x3 x5 h = some o → Fc 0 0 [] hs o.2 := by
  intro n
  induction n with
  | zero =>
    intro a0 a1 x2 x3 x5  h hF hf
    have hf : (none : Option (Int32 × Hp)) = some o := hf
    cases hf
  | succ n hk5 =>
    intro a0 a1 x2 x3 x5  h hF hf
    have hf : f_X1_outsideQuota_5  (lp (F := Nat → Nat → Int32 → Int64 → Int32 → Hp → Option (Int32 × Hp)) (fun _ _ _ _ _ _ => none) (f_X1_outsideQuota_5) n) a0 a1 x2 x3 x5 h = some o := hf
    unfold f_X1_outsideQuota_5 at hf
    rcases ite_or hf with hf | hf
    · exact mf_X1_outsideQuota_46  1000 hF hf
    · obtain ⟨q1, e9, hf⟩ := Option.bind_eq_some_iff.mp hf
      have e9 := mf_X8_holds e9
      have hF := hF.eqr e9
      clear e9
      rcases ite_or hf with hf | hf
      · exact mf_X1_outsideQuota_34 hk5 hF hf
      · obtain ⟨q2, e9, hf⟩ := Option.bind_eq_some_iff.mp hf
        have e9 := mf_X3_totalOf e9
        have hF := hF.eqr e9
        clear e9
        obtain ⟨v3, -, hf⟩ := lt_e hf
        exact mf_X1_outsideQuota_34 hk5 hF hf
set_option maxRecDepth 100000 in
theorem mf_X1_outsideQuota {a0 : Nat} {a1 : Nat} {x2 : Int32} {h : Hp} {o : Int32 × Hp} (hf : f_X1_outsideQuota a0 a1 x2 h = some o) : h = o.2 := by
  refine Fc_eq ?_
  have hF : Fc 0 0 [] h h := Fc.refl
  unfold f_X1_outsideQuota at hf
  exact mf_X1_outsideQuota_5  1000 hF hf
set_option maxRecDepth 100000 in
theorem mf_X2_boundBetween_265  {hs : Hp} {o : Int64 × Hp} {k9 : Nat → Nat → Int32 → Int32 → Int32 → Int64 → Int64 → Int32 → Hp → Option (Int64 × Hp)} (hk9 : ∀ {a0 : Nat} {a1 : Nat} {x2 : Int32} {x3 : Int32} {x4 : Int32} {x5 : Int64} {x7 : Int64} {x9 : Int32}  {h : Hp}, Fc 0 0 [] hs h → k9 a0 a1 x2 x3 x4 x5 x7 x9 h = some o → Fc 0 0 [] hs o.2) {a0 : Nat} {a1 : Nat} {x2 : Int32} {x3 : Int32} {x4 : Int32} {x5 : Int64} {x7 : Int64} {x9 : Int32}  {h : Hp} (hF : Fc 0 0 [] hs h) (hf : f_X2_boundBetween_265 k9 a0 a1 x2 x3 x4 x5 x7 x9 h = some o) : Fc 0 0 [] hs o.2 := by
  unfold f_X2_boundBetween_265 at hf
  obtain ⟨v17, -, hf⟩ := lt_e hf
  exact hk9 hF hf
set_option maxRecDepth 100000 in
theorem mf_X2_boundBetween_257  {hs : Hp} {o : Int64 × Hp} {k9 : Nat → Nat → Int32 → Int32 → Int32 → Int64 → Int64 → Int32 → Hp → Option (Int64 × Hp)} (hk9 : ∀ {a0 : Nat} {a1 : Nat} {x2 : Int32} {x3 : Int32} {x4 : Int32} {x5 : Int64} {x7 : Int64} {x9 : Int32}  {h : Hp}, Fc 0 0 [] hs h → k9 a0 a1 x2 x3 x4 x5 x7 x9 h = some o → Fc 0 0 [] hs o.2) {a0 : Nat} {a1 : Nat} {x2 : Int32} {x3 : Int32} {x4 : Int32} {x9 : Int32} {x20 : Int64} {x22 : Int64}  {h : Hp} (hF : Fc 0 0 [] hs h) (hf : f_X2_boundBetween_257 k9 a0 a1 x2 x3 x4 x9 x20 x22 h = some o) : Fc 0 0 [] hs o.2 := by
  unfold f_X2_boundBetween_257 at hf
  exact mf_X2_boundBetween_265 hk9 hF hf
set_option maxRecDepth 100000 in
theorem mf_X2_boundBetween_9  {hs : Hp} {o : Int64 × Hp}  : ∀ (n : Nat) {a0 : Nat} {a1 : Nat} {x2 : Int32} {x3 : Int32} {x4 : Int32} {x5 : Int64} {x7 : Int64} {x9 : Int32}  {h : Hp}, Fc 0 0 [] hs h → lp (F := Nat → Nat → Int32 → Int32 → Int32 → Int64 → Int64 → Int32 → Hp → Option (Int64 × Hp)) (fun _ _ _ _ _ _ _ _ _ => none) (f_X2_boundBetween_9) n a0 a1 x2 x3 x4 x5 x7 x9 h = some o → Fc 0 0 [] hs o.2 := by
  intro n
  induction n with
  | zero =>
    intro a0 a1 x2 x3 x4 x5 x7 x9  h hF hf
    have hf : (none : Option (Int64 × Hp)) = some o := hf
    cases hf
  | succ n hk9 =>
    intro a0 a1 x2 x3 x4 x5 x7 x9  h hF hf
    have hf : f_X2_boundBetween_9  (lp (F := Nat → Nat → Int32 → Int32 → Int32 → Int64 → Int64 → Int32 → Hp → Option (Int64 × Hp)) (fun _ _ _ _ _ _ _ _ _ => none) (f_X2_boundBetween_9) n) a0 a1 x2 x3 x4 x5 x7 x9 h = some o := hf
    unfold f_X2_boundBetween_9 at hf
    rcases ite_or hf with hf | hf
    · obtain ⟨q1, e9, hf⟩ := Option.bind_eq_some_iff.mp hf
      have e9 := mf_X8_lowest e9
      have hF := hF.eqr e9
      clear e9
      obtain rfl := Option.some.inj hf
      exact hF
    · obtain ⟨q2, e9, hf⟩ := Option.bind_eq_some_iff.mp hf
      have e9 := mf_X8_cellOf e9
      have hF := hF.eqr e9
      clear e9
      obtain ⟨q3, e9, hf⟩ := Option.bind_eq_some_iff.mp hf
      have e9 := mf_X8_cellOf e9
      have hF := hF.eqr e9
      clear e9
      obtain ⟨q4, e9, hf⟩ := Option.bind_eq_some_iff.mp hf
      have e9 := mf_X8_holds e9
      have hF := hF.eqr e9
      clear e9
      rcases ite_or hf with hf | hf
      · exact mf_X2_boundBetween_265 hk9 hF hf
      · obtain ⟨-, hf⟩ := ite_some hf
        rcases ite_or hf with hf | hf
        · exact mf_X2_boundBetween_265 hk9 hF hf
        · obtain ⟨-, hf⟩ := ite_some hf
          obtain ⟨q5, e9, hf⟩ := Option.bind_eq_some_iff.mp hf
          have e9 := mf_X3_markAbove e9
          have hF := hF.eqr e9
          clear e9
          obtain ⟨-, hf⟩ := ite_some hf
          obtain ⟨q6, e9, hf⟩ := Option.bind_eq_some_iff.mp hf
          have e9 := mf_X3_markAbove e9
          have hF := hF.eqr e9
          clear e9
          rcases ite_or hf with hf | hf
          · obtain rfl := Option.some.inj hf
            exact hF
          · rcases ite_or hf with hf | hf
            · obtain rfl := Option.some.inj hf
              exact hF
            · obtain ⟨-, hf⟩ := ite_some hf
              rcases ite_or hf with hf | hf
              · obtain rfl := Option.some.inj hf
                exact hF
              · obtain ⟨-, hf⟩ := ite_some hf
                obtain ⟨q7, e9, hf⟩ := Option.bind_eq_some_iff.mp hf
                have e9 := mf_X3_planMarkBelow e9
                have hF := hF.eqr e9
                clear e9
                obtain ⟨q8, e9, hf⟩ := Option.bind_eq_some_iff.mp hf
                have e9 := mf_X8_product e9
                have hF := hF.eqr e9
                clear e9
                obtain ⟨q9, e9, hf⟩ := Option.bind_eq_some_iff.mp hf
                have e9 := mf_X8_product e9
                have hF := hF.eqr e9
                clear e9
                obtain ⟨-, hf⟩ := ite_some hf
                obtain ⟨q10, e9, hf⟩ := Option.bind_eq_some_iff.mp hf
                have e9 := mf_X3_planMarkBelow e9
                have hF := hF.eqr e9
                clear e9
                obtain ⟨q11, e9, hf⟩ := Option.bind_eq_some_iff.mp hf
                have e9 := mf_X8_product e9
                have hF := hF.eqr e9
                clear e9
                obtain ⟨q12, e9, hf⟩ := Option.bind_eq_some_iff.mp hf
                have e9 := mf_X8_product e9
                have hF := hF.eqr e9
                clear e9
                rcases ite_or hf with hf | hf
                · obtain rfl := Option.some.inj hf
                  exact hF
                · rcases ite_or hf with hf | hf
                  · obtain ⟨q13, e9, hf⟩ := Option.bind_eq_some_iff.mp hf
                    have e9 := mf_X8_lowest e9
                    have hF := hF.eqr e9
                    clear e9
                    obtain ⟨q14, e9, hf⟩ := Option.bind_eq_some_iff.mp hf
                    have e9 := mf_X8_lowest e9
                    have hF := hF.eqr e9
                    clear e9
                    obtain ⟨q15, e9, hf⟩ := Option.bind_eq_some_iff.mp hf
                    have e9 := mf_X8_product e9
                    have hF := hF.eqr e9
                    clear e9
                    obtain ⟨q16, e9, hf⟩ := Option.bind_eq_some_iff.mp hf
                    have e9 := mf_X8_product e9
                    have hF := hF.eqr e9
                    clear e9
                    rcases ite_or hf with hf | hf
                    · obtain rfl := Option.some.inj hf
                      exact hF
                    · rcases ite_or hf with hf | hf
                      · rcases ite_or hf with hf | hf
                        · exact mf_X2_boundBetween_257 hk9 hF hf
                        · rcases ite_or hf with hf | hf
                          · exact mf_X2_boundBetween_265 hk9 hF hf
                          · exact mf_X2_boundBetween_257 hk9 hF hf
                      · obtain rfl := Option.some.inj hf
                        exact hF
                  · obtain rfl := Option.some.inj hf
                    exact hF
set_option maxRecDepth 100000 in
theorem mf_X2_boundBetween {a0 : Nat} {a1 : Nat} {x2 : Int32} {x3 : Int32} {x4 : Int32} {h : Hp} {o : Int64 × Hp} (hf : f_X2_boundBetween a0 a1 x2 x3 x4 h = some o) : h = o.2 := by
  refine Fc_eq ?_
  have hF : Fc 0 0 [] h h := Fc.refl
  unfold f_X2_boundBetween at hf
  exact mf_X2_boundBetween_9  1000 hF hf
set_option maxRecDepth 100000 in
theorem mf_X3_inBits_58  {hs : Hp} {o : Int32 × Hp} {k17 : Nat → Int64 → Int32 → Int32 → Hp → Option (Int32 × Hp)} (hk17 : ∀ {a0 : Nat} {x1 : Int64} {x3 : Int32} {x4 : Int32}  {h : Hp}, Fc 0 0 [] hs h → k17 a0 x1 x3 x4 h = some o → Fc 0 0 [] hs o.2) {a0 : Nat} {x1 : Int64} {x3 : Int32} {x4 : Int32}  {h : Hp} (hF : Fc 0 0 [] hs h) (hf : f_X3_inBits_58 k17 a0 x1 x3 x4 h = some o) : Fc 0 0 [] hs o.2 := by
  unfold f_X3_inBits_58 at hf
  obtain ⟨v6, -, hf⟩ := lt_e hf
  exact hk17 hF hf
set_option maxRecDepth 100000 in
theorem mf_X3_inBits_17  {hs : Hp} {o : Int32 × Hp}  : ∀ (n : Nat) {a0 : Nat} {x1 : Int64} {x3 : Int32} {x4 : Int32}  {h : Hp}, Fc 0 0 [] hs h → lp (F := Nat → Int64 → Int32 → Int32 → Hp → Option (Int32 × Hp)) (fun _ _ _ _ _ => none) (f_X3_inBits_17) n a0 x1 x3 x4 h = some o → Fc 0 0 [] hs o.2 := by
  intro n
  induction n with
  | zero =>
    intro a0 x1 x3 x4  h hF hf
    have hf : (none : Option (Int32 × Hp)) = some o := hf
    cases hf
  | succ n hk17 =>
    intro a0 x1 x3 x4  h hF hf
    have hf : f_X3_inBits_17  (lp (F := Nat → Int64 → Int32 → Int32 → Hp → Option (Int32 × Hp)) (fun _ _ _ _ _ => none) (f_X3_inBits_17) n) a0 x1 x3 x4 h = some o := hf
    unfold f_X3_inBits_17 at hf
    rcases ite_or hf with hf | hf
    · obtain rfl := Option.some.inj hf
      exact hF
    · obtain ⟨q3, e9, hf⟩ := Option.bind_eq_some_iff.mp hf
      have e9 := mf_X3_totalOf e9
      have hF := hF.eqr e9
      clear e9
      obtain ⟨v4, -, hf⟩ := lt_e hf
      rcases ite_or hf with hf | hf
      · exact mf_X3_inBits_58 hk17 hF hf
      · rcases ite_or hf with hf | hf
        · exact mf_X3_inBits_58 hk17 hF hf
        · obtain ⟨v5, -, hf⟩ := lt_e hf
          exact mf_X3_inBits_58 hk17 hF hf
set_option maxRecDepth 100000 in
theorem mf_X3_inBits {a0 : Nat} {h : Hp} {o : Int32 × Hp} (hf : f_X3_inBits a0 h = some o) : h = o.2 := by
  refine Fc_eq ?_
  have hF : Fc 0 0 [] h h := Fc.refl
  unfold f_X3_inBits at hf
  obtain ⟨q1, e9, hf⟩ := Option.bind_eq_some_iff.mp hf
  have e9 := mf_X3_sumOfAll e9
  have hF := hF.eqr e9
  clear e9
  obtain ⟨v2, -, hf⟩ := lt_e hf
  exact mf_X3_inBits_17  1000 hF hf
set_option maxRecDepth 100000 in
theorem mf_X4_pickParty_159 {a0 : Nat} {hs : Hp} {o : Int32 × Hp} {fr : Nat → Int32 → Int32 → Hp → Option (Int32 × Hp)} (hfr : ∀ {x1 : Int32} {x2 : Int32} {h : Hp} {o : Int32 × Hp}, fr a0 x1 x2 h = some o → Fc a0 (a0 + 9) [] h o.2) {k62 : Nat → Int32 → Int32 → Int32 → Int32 → Hp → Option (Int32 × Hp)} (hk62 : ∀ {x1 : Int32} {x2 : Int32} {x4 : Int32} {x5 : Int32}  {h : Hp}, Fc a0 (a0 + 9) [] hs h → k62 a0 x1 x2 x4 x5 h = some o → Fc a0 (a0 + 9) [] hs o.2) {x1 : Int32} {x2 : Int32} {x4 : Int32} {x5 : Int32}  {h : Hp} (hF : Fc a0 (a0 + 9) [] hs h) (hf : f_X4_pickParty_159 fr k62 a0 x1 x2 x4 x5 h = some o) : Fc a0 (a0 + 9) [] hs o.2 := by
  unfold f_X4_pickParty_159 at hf
  obtain ⟨v10, -, hf⟩ := lt_e hf
  exact hk62 hF hf
set_option maxRecDepth 100000 in
theorem mf_X4_pickParty_62 {a0 : Nat} {hs : Hp} {o : Int32 × Hp} {fr : Nat → Int32 → Int32 → Hp → Option (Int32 × Hp)} (hfr : ∀ {x1 : Int32} {x2 : Int32} {h : Hp} {o : Int32 × Hp}, fr a0 x1 x2 h = some o → Fc a0 (a0 + 9) [] h o.2)  : ∀ (n : Nat) {x1 : Int32} {x2 : Int32} {x4 : Int32} {x5 : Int32}  {h : Hp}, Fc a0 (a0 + 9) [] hs h → lp (F := Nat → Int32 → Int32 → Int32 → Int32 → Hp → Option (Int32 × Hp)) (fun _ _ _ _ _ _ => none) (f_X4_pickParty_62 fr) n a0 x1 x2 x4 x5 h = some o → Fc a0 (a0 + 9) [] hs o.2 := by
  intro n
  induction n with
  | zero =>
    intro x1 x2 x4 x5  h hF hf
    have hf : (none : Option (Int32 × Hp)) = some o := hf
    cases hf
  | succ n hk62 =>
    intro x1 x2 x4 x5  h hF hf
    have hf : f_X4_pickParty_62 fr  (lp (F := Nat → Int32 → Int32 → Int32 → Int32 → Hp → Option (Int32 × Hp)) (fun _ _ _ _ _ _ => none) (f_X4_pickParty_62 fr) n) a0 x1 x2 x4 x5 h = some o := hf
    unfold f_X4_pickParty_62 at hf
    rcases ite_or hf with hf | hf
    · obtain rfl := Option.some.inj hf
      exact hF
    · obtain ⟨q2, e9, hf⟩ := Option.bind_eq_some_iff.mp hf
      have e9 := mf_X8_holds e9
      have hF := hF.eqr e9
      clear e9
      rcases ite_or hf with hf | hf
      · exact mf_X4_pickParty_159 hfr hk62 hF hf
      · obtain ⟨q3, e9, hf⟩ := Option.bind_eq_some_iff.mp hf
        have e9 := mf_X8_cellOf e9
        have hF := hF.eqr e9
        clear e9
        obtain ⟨-, hf⟩ := ite_some hf
        rcases ite_or hf with hf | hf
        · exact mf_X4_pickParty_159 hfr hk62 hF hf
        · obtain ⟨-, hf⟩ := ite_some hf
          obtain ⟨m4, em, hf⟩ := lt_e hf
          have hF := Fc_sI hF em (Or.inl (by omega))
          clear em
          obtain ⟨-, hf⟩ := ite_some hf
          obtain ⟨q5, e9, hf⟩ := Option.bind_eq_some_iff.mp hf
          have e9 := mf_X8_cellOf e9
          have hF := hF.eqr e9
          clear e9
          obtain ⟨-, hf⟩ := ite_some hf
          obtain ⟨m6, em, hf⟩ := lt_e hf
          have hF := Fc_sI hF em (Or.inl (by omega))
          clear em
          obtain ⟨q7, e9, hf⟩ := Option.bind_eq_some_iff.mp hf
          have e9 := mf_X8_cellOf e9
          have hF := hF.eqr e9
          clear e9
          obtain ⟨-, hf⟩ := ite_some hf
          obtain ⟨m8, em, hf⟩ := lt_e hf
          have hF := Fc_sI hF em (Or.inl (by omega))
          clear em
          obtain ⟨q9, e9, hf⟩ := Option.bind_eq_some_iff.mp hf
          have hF := hF.trans (hfr e9)
          clear e9
          rcases ite_or hf with hf | hf
          · exact mf_X4_pickParty_159 hfr hk62 hF hf
          · obtain rfl := Option.some.inj hf
            exact hF
set_option maxRecDepth 100000 in
theorem mf_X4_pickParty_56 {a0 : Nat} {hs : Hp} {o : Int32 × Hp} {fr : Nat → Int32 → Int32 → Hp → Option (Int32 × Hp)} (hfr : ∀ {x1 : Int32} {x2 : Int32} {h : Hp} {o : Int32 × Hp}, fr a0 x1 x2 h = some o → Fc a0 (a0 + 9) [] h o.2)  {x1 : Int32} {x2 : Int32} {y0 : Int32}  {h : Hp} (hF : Fc a0 (a0 + 9) [] hs h) (hf : f_X4_pickParty_56 fr  a0 x1 x2 y0 (a0 + 1) h = some o) : Fc a0 (a0 + 9) [] hs o.2 := by
  unfold f_X4_pickParty_56 at hf
  obtain ⟨-, hf⟩ := ite_some hf
  obtain ⟨v1, -, hf⟩ := lt_e hf
  exact mf_X4_pickParty_62 hfr  1000 hF hf
set_option maxRecDepth 100000 in
theorem mf_X4_pickParty_40 {a0 : Nat} {hs : Hp} {o : Int32 × Hp} {fr : Nat → Int32 → Int32 → Hp → Option (Int32 × Hp)} (hfr : ∀ {x1 : Int32} {x2 : Int32} {h : Hp} {o : Int32 × Hp}, fr a0 x1 x2 h = some o → Fc a0 (a0 + 9) [] h o.2)  {x1 : Int32} {x2 : Int32} {y0 : Int32}  {h : Hp} (hF : Fc a0 (a0 + 9) [] hs h) (hf : f_X4_pickParty_40 fr  a0 x1 x2 y0 h = some o) : Fc a0 (a0 + 9) [] hs o.2 := by
  unfold f_X4_pickParty_40 at hf
  rcases ite_or hf with hf | hf
  · exact mf_X4_pickParty_56 hfr  hF hf
  · exact mf_X4_pickParty_56 hfr  hF hf
set_option maxRecDepth 100000 in
theorem mf_X4_pickParty_35 {a0 : Nat} {hs : Hp} {o : Int32 × Hp} {fr : Nat → Int32 → Int32 → Hp → Option (Int32 × Hp)} (hfr : ∀ {x1 : Int32} {x2 : Int32} {h : Hp} {o : Int32 × Hp}, fr a0 x1 x2 h = some o → Fc a0 (a0 + 9) [] h o.2)  {x1 : Int32} {x2 : Int32}  {h : Hp} (hF : Fc a0 (a0 + 9) [] hs h) (hf : f_X4_pickParty_35 fr  a0 x1 x2 h = some o) : Fc a0 (a0 + 9) [] hs o.2 := by
  unfold f_X4_pickParty_35 at hf
  exact mf_X4_pickParty_40 hfr  hF hf
set_option maxRecDepth 100000 in
theorem mf_X4_pickParty_13 {a0 : Nat} {hs : Hp} {o : Int32 × Hp} {fr : Nat → Int32 → Int32 → Hp → Option (Int32 × Hp)} (hfr : ∀ {x1 : Int32} {x2 : Int32} {h : Hp} {o : Int32 × Hp}, fr a0 x1 x2 h = some o → Fc a0 (a0 + 9) [] h o.2)    {h : Hp} (hF : Fc a0 (a0 + 9) [] hs h) (hf : f_X4_pickParty_13 fr  a0 h = some o) : Fc a0 (a0 + 9) [] hs o.2 := by
  unfold f_X4_pickParty_13 at hf
  obtain ⟨q11, e9, hf⟩ := Option.bind_eq_some_iff.mp hf
  have e9 := mf_X4_weigh e9
  have hF := hF.eqr e9
  clear e9
  obtain rfl := Option.some.inj hf
  exact hF
set_option maxRecDepth 100000 in
theorem mf_X4_pickParty {a0 : Nat} : ∀ {n : Nat} {x1 : Int32} {x2 : Int32} {h : Hp} {o : Int32 × Hp}, f_X4_pickParty n a0 x1 x2 h = some o → Fc a0 (a0 + 9) [] h o.2 := by
  intro n
  induction n with
  | zero =>
    intro x1 x2 h o hf
    have hf : (none : Option (Int32 × Hp)) = some o := hf
    cases hf
  | succ n hfr =>
    intro x1 x2 h o hf
    have hf : f_X4_pickParty_0 (f_X4_pickParty n) a0 x1 x2 h = some o := hf
    have hF : Fc a0 (a0 + 9) [] h h := Fc.refl
    unfold f_X4_pickParty_0 at hf
    rcases ite_or hf with hf | hf
    · exact mf_X4_pickParty_13 hfr  hF hf
    · rcases ite_or hf with hf | hf
      · rcases ite_or hf with hf | hf
        · exact mf_X4_pickParty_35 hfr  hF hf
        · rcases ite_or hf with hf | hf
          · exact mf_X4_pickParty_40 hfr  hF hf
          · exact mf_X4_pickParty_35 hfr  hF hf
      · exact mf_X4_pickParty_13 hfr  hF hf
set_option maxRecDepth 100000 in
theorem mf_X6_copyIn_3 {a0 : Nat} {hs : Hp} {o : Int32 × Hp}  : ∀ (n : Nat) {x1 : Int32} {x2 : Int32} {a3 : Nat} {x4 : Int32}  {h : Hp}, Fc a0 (a0 + 7) [] hs h → lp (F := Nat → Int32 → Int32 → Nat → Int32 → Hp → Option (Int32 × Hp)) (fun _ _ _ _ _ _ => none) (f_X6_copyIn_3) n a0 x1 x2 a3 x4 h = some o → Fc a0 (a0 + 7) [] hs o.2 := by
  intro n
  induction n with
  | zero =>
    intro x1 x2 a3 x4  h hF hf
    have hf : (none : Option (Int32 × Hp)) = some o := hf
    cases hf
  | succ n hk3 =>
    intro x1 x2 a3 x4  h hF hf
    have hf : f_X6_copyIn_3  (lp (F := Nat → Int32 → Int32 → Nat → Int32 → Hp → Option (Int32 × Hp)) (fun _ _ _ _ _ _ => none) (f_X6_copyIn_3) n) a0 x1 x2 a3 x4 h = some o := hf
    unfold f_X6_copyIn_3 at hf
    rcases ite_or hf with hf | hf
    · obtain ⟨-, hf⟩ := ite_some hf
      obtain rfl := Option.some.inj hf
      exact hF
    · obtain ⟨-, hf⟩ := ite_some hf
      obtain ⟨q1, e9, hf⟩ := Option.bind_eq_some_iff.mp hf
      have hF := hF.trans ((mf_X6_put e9).mono (by omega) (by omega) (fun k hk => by simp at hk))
      clear e9
      rcases ite_or hf with hf | hf
      · obtain ⟨-, hf⟩ := ite_some hf
        obtain rfl := Option.some.inj hf
        exact hF
      · obtain ⟨v2, -, hf⟩ := lt_e hf
        exact hk3 hF hf
set_option maxRecDepth 100000 in
theorem mf_X6_copyIn {a0 : Nat} {x1 : Int32} {x2 : Int32} {a3 : Nat} {h : Hp} {o : Int32 × Hp} (hf : f_X6_copyIn a0 x1 x2 a3 h = some o) : Fc a0 (a0 + 7) [] h o.2 := by
  have hF : Fc a0 (a0 + 7) [] h h := Fc.refl
  unfold f_X6_copyIn at hf
  exact mf_X6_copyIn_3  1000 hF hf
set_option maxRecDepth 100000 in
theorem mf_X7_parse_169 {a0 : Nat} {a2 : Nat} {hs : Hp} {o : Int32 × Hp} {k17 : Nat → Nat → Int32 → Int32 → Int32 → Int32 → Hp → Option (Int32 × Hp)} (hk17 : ∀ {x4 : Int32} {x5 : Int32} {x6 : Int32} {x7 : Int32}  {h : Hp}, Fc a0 (a0 + 2) [a2, a2 + 1, a2 + 2, a2 + 3, a2 + 4] hs h → k17 a0 a2 x4 x5 x6 x7 h = some o → Fc a0 (a0 + 2) [a2, a2 + 1, a2 + 2, a2 + 3, a2 + 4] hs o.2) {x4 : Int32} {x5 : Int32} {x6 : Int32} {x7 : Int32}  {h : Hp} (hF : Fc a0 (a0 + 2) [a2, a2 + 1, a2 + 2, a2 + 3, a2 + 4] hs h) (hf : f_X7_parse_169 k17 a0 a2 x4 x5 x6 x7 h = some o) : Fc a0 (a0 + 2) [a2, a2 + 1, a2 + 2, a2 + 3, a2 + 4] hs o.2 := by
  unfold f_X7_parse_169 at hf
  obtain ⟨v8, -, hf⟩ := lt_e hf
  obtain ⟨v9, -, hf⟩ := lt_e hf
  exact hk17 hF hf
set_option maxRecDepth 100000 in
theorem mf_X7_parse_167 {a0 : Nat} {a2 : Nat} {hs : Hp} {o : Int32 × Hp}  {y0 : Int32} {y1 : Int32}  {h : Hp} (hF : Fc a0 (a0 + 2) [a2, a2 + 1, a2 + 2, a2 + 3, a2 + 4] hs h) (hf : f_X7_parse_167  y0 y1 h = some o) : Fc a0 (a0 + 2) [a2, a2 + 1, a2 + 2, a2 + 3, a2 + 4] hs o.2 := by
  unfold f_X7_parse_167 at hf
  obtain rfl := Option.some.inj hf
  exact hF
set_option maxRecDepth 100000 in
theorem mf_X7_parse_144 {a0 : Nat} {a2 : Nat} {hs : Hp} {o : Int32 × Hp}  {x6 : Int32}  {h : Hp} (hF : Fc a0 (a0 + 2) [a2, a2 + 1, a2 + 2, a2 + 3, a2 + 4] hs h) (hf : f_X7_parse_144  a0 x6 h = some o) : Fc a0 (a0 + 2) [a2, a2 + 1, a2 + 2, a2 + 3, a2 + 4] hs o.2 := by
  unfold f_X7_parse_144 at hf
  obtain ⟨-, hf⟩ := ite_some hf
  rcases ite_or hf with hf | hf
  · exact mf_X7_parse_167  hF hf
  · exact mf_X7_parse_167  hF hf
set_option maxRecDepth 100000 in
theorem mf_X7_parse_117 {a0 : Nat} {a2 : Nat} {hs : Hp} {o : Int32 × Hp} {k17 : Nat → Nat → Int32 → Int32 → Int32 → Int32 → Hp → Option (Int32 × Hp)} (hk17 : ∀ {x4 : Int32} {x5 : Int32} {x6 : Int32} {x7 : Int32}  {h : Hp}, Fc a0 (a0 + 2) [a2, a2 + 1, a2 + 2, a2 + 3, a2 + 4] hs h → k17 a0 a2 x4 x5 x6 x7 h = some o → Fc a0 (a0 + 2) [a2, a2 + 1, a2 + 2, a2 + 3, a2 + 4] hs o.2) {x4 : Int32} {x6 : Int32} {x7 : Int32}  {h : Hp} (hF : Fc a0 (a0 + 2) [a2, a2 + 1, a2 + 2, a2 + 3, a2 + 4] hs h) (hf : f_X7_parse_117 k17 a0 a2 x4 x6 x7 h = some o) : Fc a0 (a0 + 2) [a2, a2 + 1, a2 + 2, a2 + 3, a2 + 4] hs o.2 := by
  unfold f_X7_parse_117 at hf
  obtain ⟨-, hf⟩ := ite_some hf
  rcases ite_or hf with hf | hf
  · rcases ite_or hf with hf | hf
    · exact mf_X7_parse_144  hF hf
    · obtain ⟨v10, -, hf⟩ := lt_e hf
      exact mf_X7_parse_169 hk17 hF hf
  · exact mf_X7_parse_144  hF hf
set_option maxRecDepth 100000 in
theorem mf_X7_parse_54 {a0 : Nat} {a2 : Nat} {hs : Hp} {o : Int32 × Hp}  {x6 : Int32}  {h : Hp} (hF : Fc a0 (a0 + 2) [a2, a2 + 1, a2 + 2, a2 + 3, a2 + 4] hs h) (hf : f_X7_parse_54  x6 h = some o) : Fc a0 (a0 + 2) [a2, a2 + 1, a2 + 2, a2 + 3, a2 + 4] hs o.2 := by
  unfold f_X7_parse_54 at hf
  obtain rfl := Option.some.inj hf
  exact hF
set_option maxRecDepth 100000 in
theorem mf_X7_parse_17 {a0 : Nat} {a2 : Nat} {hs : Hp} {o : Int32 × Hp}  : ∀ (n : Nat) {x4 : Int32} {x5 : Int32} {x6 : Int32} {x7 : Int32}  {h : Hp}, Fc a0 (a0 + 2) [a2, a2 + 1, a2 + 2, a2 + 3, a2 + 4] hs h → lp (F := Nat → Nat → Int32 → Int32 → Int32 → Int32 → Hp → Option (Int32 × Hp)) (fun _ _ _ _ _ _ _ => none) (f_X7_parse_17) n a0 a2 x4 x5 x6 x7 h = some o → Fc a0 (a0 + 2) [a2, a2 + 1, a2 + 2, a2 + 3, a2 + 4] hs o.2 := by
  intro n
  induction n with
  | zero =>
    intro x4 x5 x6 x7  h hF hf
    have hf : (none : Option (Int32 × Hp)) = some o := hf
    cases hf
  | succ n hk17 =>
    intro x4 x5 x6 x7  h hF hf
    have hf : f_X7_parse_17  (lp (F := Nat → Nat → Int32 → Int32 → Int32 → Int32 → Hp → Option (Int32 × Hp)) (fun _ _ _ _ _ _ _ => none) (f_X7_parse_17) n) a0 a2 x4 x5 x6 x7 h = some o := hf
    unfold f_X7_parse_17 at hf
    rcases ite_or hf with hf | hf
    · obtain rfl := Option.some.inj hf
      exact hF
    · obtain ⟨q2, e9, hf⟩ := Option.bind_eq_some_iff.mp hf
      have e9 := mf_X7_figuresAt e9
      have hF := hF.eqr e9
      clear e9
      obtain ⟨q3, e9, hf⟩ := Option.bind_eq_some_iff.mp hf
      have e9 := mf_X7_valueOf e9
      have hF := hF.eqr e9
      clear e9
      rcases ite_or hf with hf | hf
      · exact mf_X7_parse_54  hF hf
      · rcases ite_or hf with hf | hf
        · obtain ⟨q4, e9, hf⟩ := Option.bind_eq_some_iff.mp hf
          have e9 := mf_X8_cellOf e9
          have hF := hF.eqr e9
          clear e9
          obtain ⟨-, hf⟩ := ite_some hf
          obtain ⟨m5, em, hf⟩ := lt_e hf
          have hF := Fc_sI hF em (Or.inr (by simp))
          clear em
          obtain ⟨v6, -, hf⟩ := lt_e hf
          rcases ite_or hf with hf | hf
          · obtain ⟨-, hf⟩ := ite_some hf
            rcases ite_or hf with hf | hf
            · rcases ite_or hf with hf | hf
              · exact mf_X7_parse_117 hk17 hF hf
              · obtain ⟨v7, -, hf⟩ := lt_e hf
                exact mf_X7_parse_169 hk17 hF hf
            · exact mf_X7_parse_117 hk17 hF hf
          · obtain rfl := Option.some.inj hf
            exact hF
        · exact mf_X7_parse_54  hF hf
set_option maxRecDepth 100000 in
theorem mf_X7_parse {a0 : Nat} {x1 : Int32} {a2 : Nat} {a3 : Nat} {h : Hp} {o : Int32 × Hp} (hf : f_X7_parse a0 x1 a2 a3 h = some o) : Fc a0 (a0 + 2) [a2, a2 + 1, a2 + 2, a2 + 3, a2 + 4] h o.2 := by
  have hF : Fc a0 (a0 + 2) [a2, a2 + 1, a2 + 2, a2 + 3, a2 + 4] h h := Fc.refl
  unfold f_X7_parse at hf
  obtain ⟨q1, e9, hf⟩ := Option.bind_eq_some_iff.mp hf
  have hF := hF.trans ((mf_X3_copyFrom e9).monoX (fun k h1 h2 => by simp only [List.mem_cons, List.not_mem_nil, or_false]; omega))
  clear e9
  exact mf_X7_parse_17  1000 hF hf
set_option maxRecDepth 100000 in
theorem mf_X8_image {a0 : Nat} {h : Hp} {o : Int32 × Hp} (hf : f_X8_image a0 h = some o) : Fc a0 (a0 + 108) [] h o.2 := by
  have hF : Fc a0 (a0 + 108) [] h h := Fc.refl
  unfold f_X8_image at hf
  obtain ⟨q1, e9, hf⟩ := Option.bind_eq_some_iff.mp hf
  have hF := hF.trans ((mf_X3_copyFrom e9).mono (by omega) (by omega) (fun k hk => by simp at hk))
  clear e9
  obtain ⟨m2, em, hf⟩ := lt_e hf
  have hF := Fc_sI hF em (Or.inl (by omega))
  clear em
  obtain ⟨q3, e9, hf⟩ := Option.bind_eq_some_iff.mp hf
  have e9 := mf_X3_sumOfAll e9
  have hF := hF.eqr e9
  clear e9
  obtain rfl := Option.some.inj hf
  exact hF
set_option maxRecDepth 100000 in
theorem mf_X8_price {a0 : Nat} {x1 : Int32} {x2 : Int32} {x3 : Int32} {h : Hp} {o : Int64 × Hp} (hf : f_X8_price a0 x1 x2 x3 h = some o) : h = o.2 := by
  refine Fc_eq ?_
  have hF : Fc 0 0 [] h h := Fc.refl
  unfold f_X8_price at hf
  obtain ⟨q1, e9, hf⟩ := Option.bind_eq_some_iff.mp hf
  have e9 := mf_X8_within e9
  have hF := hF.eqr e9
  clear e9
  rcases ite_or hf with hf | hf
  · obtain rfl := Option.some.inj hf
    exact hF
  · rcases ite_or hf with hf | hf
    · obtain rfl := Option.some.inj hf
      exact hF
    · rcases ite_or hf with hf | hf
      · obtain rfl := Option.some.inj hf
        exact hF
      · obtain ⟨q2, e9, hf⟩ := Option.bind_eq_some_iff.mp hf
        have e9 := mf_X8_within e9
        have hF := hF.eqr e9
        clear e9
        rcases ite_or hf with hf | hf
        · obtain rfl := Option.some.inj hf
          exact hF
        · rcases ite_or hf with hf | hf
          · obtain rfl := Option.some.inj hf
            exact hF
          · obtain ⟨q3, e9, hf⟩ := Option.bind_eq_some_iff.mp hf
            have e9 := mf_X3_totalOf e9
            have hF := hF.eqr e9
            clear e9
            obtain ⟨q4, e9, hf⟩ := Option.bind_eq_some_iff.mp hf
            have e9 := mf_X3_priceAbove e9
            have hF := hF.eqr e9
            clear e9
            obtain ⟨q5, e9, hf⟩ := Option.bind_eq_some_iff.mp hf
            have e9 := mf_X3_markAbove e9
            have hF := hF.eqr e9
            clear e9
            obtain ⟨q6, e9, hf⟩ := Option.bind_eq_some_iff.mp hf
            have e9 := mf_X8_lowest e9
            have hF := hF.eqr e9
            clear e9
            obtain rfl := Option.some.inj hf
            exact hF
set_option maxRecDepth 100000 in
theorem mf_X8_row {a0 : Nat} {x1 : Int32} {x2 : Int32} {h : Hp} {o : Int32 × Hp} (hf : f_X8_row a0 x1 x2 h = some o) : Fc a0 (a0 + 108) [] h o.2 := by
  have hF : Fc a0 (a0 + 108) [] h h := Fc.refl
  unfold f_X8_row at hf
  obtain ⟨q1, e9, hf⟩ := Option.bind_eq_some_iff.mp hf
  have e9 := mf_X8_within e9
  have hF := hF.eqr e9
  clear e9
  rcases ite_or hf with hf | hf
  · obtain rfl := Option.some.inj hf
    exact hF
  · rcases ite_or hf with hf | hf
    · rcases ite_or hf with hf | hf
      · obtain ⟨q2, e9, hf⟩ := Option.bind_eq_some_iff.mp hf
        have hF := hF.trans ((mf_X6_makeRow e9).mono (by omega) (by omega) (fun k hk => by simp at hk))
        clear e9
        obtain rfl := Option.some.inj hf
        exact hF
      · obtain rfl := Option.some.inj hf
        exact hF
    · obtain rfl := Option.some.inj hf
      exact hF
set_option maxRecDepth 100000 in
theorem mf_X8_set {a0 : Nat} {x1 : Int32} {x2 : Int32} {x3 : Int32} {h : Hp} {o : Int32 × Hp} (hf : f_X8_set a0 x1 x2 x3 h = some o) : Fc a0 (a0 + 108) [] h o.2 := by
  have hF : Fc a0 (a0 + 108) [] h h := Fc.refl
  unfold f_X8_set at hf
  obtain ⟨q1, e9, hf⟩ := Option.bind_eq_some_iff.mp hf
  have e9 := mf_X8_within e9
  have hF := hF.eqr e9
  clear e9
  rcases ite_or hf with hf | hf
  · obtain rfl := Option.some.inj hf
    exact hF
  · obtain ⟨q2, e9, hf⟩ := Option.bind_eq_some_iff.mp hf
    have e9 := mf_X6_isThere e9
    have hF := hF.eqr e9
    clear e9
    rcases ite_or hf with hf | hf
    · obtain rfl := Option.some.inj hf
      exact hF
    · obtain ⟨q3, e9, hf⟩ := Option.bind_eq_some_iff.mp hf
      have hF := hF.trans ((mf_X6_put e9).mono (by omega) (by omega) (fun k hk => by simp at hk))
      clear e9
      rcases ite_or hf with hf | hf
      · obtain rfl := Option.some.inj hf
        exact hF
      · obtain rfl := Option.some.inj hf
        exact hF
set_option maxRecDepth 100000 in
theorem mf_X8_undo {a0 : Nat} {h : Hp} {o : Int32 × Hp} (hf : f_X8_undo a0 h = some o) : Fc a0 (a0 + 108) [] h o.2 := by
  have hF : Fc a0 (a0 + 108) [] h h := Fc.refl
  unfold f_X8_undo at hf
  rcases ite_or hf with hf | hf
  · obtain rfl := Option.some.inj hf
    exact hF
  · obtain ⟨q1, e9, hf⟩ := Option.bind_eq_some_iff.mp hf
    have hF := hF.trans ((mf_X3_copyFrom e9).mono (by omega) (by omega) (fun k hk => by simp at hk))
    clear e9
    obtain ⟨q2, e9, hf⟩ := Option.bind_eq_some_iff.mp hf
    have hF := hF.trans ((mf_X2_forget e9).mono (by omega) (by omega) (fun k hk => by simp at hk))
    clear e9
    obtain ⟨q3, e9, hf⟩ := Option.bind_eq_some_iff.mp hf
    have e9 := mf_X3_sumOfAll e9
    have hF := hF.eqr e9
    clear e9
    obtain rfl := Option.some.inj hf
    exact hF
set_option maxRecDepth 100000 in
theorem mf_X8_votes {a0 : Nat} {x1 : Int32} {x2 : Int32} {h : Hp} {o : Int32 × Hp} (hf : f_X8_votes a0 x1 x2 h = some o) : h = o.2 := by
  refine Fc_eq ?_
  have hF : Fc 0 0 [] h h := Fc.refl
  unfold f_X8_votes at hf
  rcases ite_or hf with hf | hf
  · obtain rfl := Option.some.inj hf
    exact hF
  · rcases ite_or hf with hf | hf
    · obtain rfl := Option.some.inj hf
      exact hF
    · rcases ite_or hf with hf | hf
      · obtain rfl := Option.some.inj hf
        exact hF
      · rcases ite_or hf with hf | hf
        · rcases ite_or hf with hf | hf
          · rcases ite_or hf with hf | hf
            · obtain ⟨q4, e9, hf⟩ := Option.bind_eq_some_iff.mp hf
              have e9 := mf_X3_sumOfAll e9
              have hF := hF.eqr e9
              clear e9
              obtain rfl := Option.some.inj hf
              exact hF
            · obtain ⟨q3, e9, hf⟩ := Option.bind_eq_some_iff.mp hf
              have e9 := mf_X3_totalOf e9
              have hF := hF.eqr e9
              clear e9
              obtain rfl := Option.some.inj hf
              exact hF
          · rcases ite_or hf with hf | hf
            · obtain ⟨q2, e9, hf⟩ := Option.bind_eq_some_iff.mp hf
              have e9 := mf_X3_sumOfWard e9
              have hF := hF.eqr e9
              clear e9
              obtain rfl := Option.some.inj hf
              exact hF
            · obtain ⟨q1, e9, hf⟩ := Option.bind_eq_some_iff.mp hf
              have e9 := mf_X8_cellOf e9
              have hF := hF.eqr e9
              clear e9
              obtain ⟨-, hf⟩ := ite_some hf
              obtain rfl := Option.some.inj hf
              exact hF
        · obtain rfl := Option.some.inj hf
          exact hF
set_option maxRecDepth 100000 in
theorem mf_X0_giveByPrices_65 {a0 : Nat} {hs : Hp} {o : Int32 × Hp}  : ∀ (n : Nat) {a1 : Nat} {x2 : Int32} {x3 : Int32} {x5 : Int32}  {h : Hp}, Fc a0 (a0 + 9) [] hs h → lp (F := Nat → Nat → Int32 → Int32 → Int32 → Hp → Option (Int32 × Hp)) (fun _ _ _ _ _ _ => none) (f_X0_giveByPrices_65) n a0 a1 x2 x3 x5 h = some o → Fc a0 (a0 + 9) [] hs o.2 := by
  intro n
  induction n with
  | zero =>
    intro a1 x2 x3 x5  h hF hf
    have hf : (none : Option (Int32 × Hp)) = some o := hf
    cases hf
  | succ n hk65 =>
    intro a1 x2 x3 x5  h hF hf
    have hf : f_X0_giveByPrices_65  (lp (F := Nat → Nat → Int32 → Int32 → Int32 → Hp → Option (Int32 × Hp)) (fun _ _ _ _ _ _ => none) (f_X0_giveByPrices_65) n) a0 a1 x2 x3 x5 h = some o := hf
    unfold f_X0_giveByPrices_65 at hf
    rcases ite_or hf with hf | hf
    · obtain ⟨-, hf⟩ := ite_some hf
      obtain rfl := Option.some.inj hf
      exact hF
    · rcases ite_or hf with hf | hf
      · obtain ⟨-, hf⟩ := ite_some hf
        obtain rfl := Option.some.inj hf
        exact hF
      · obtain ⟨q5, e9, hf⟩ := Option.bind_eq_some_iff.mp hf
        have hF := hF.trans ((mf_X0_dearest e9).mono (by omega) (by omega) (fun k hk => by simp at hk))
        clear e9
        obtain ⟨-, hf⟩ := ite_some hf
        obtain ⟨-, hf⟩ := ite_some hf
        obtain ⟨m6, em, hf⟩ := lt_e hf
        have hF := Fc_sI hF em (Or.inl (by omega))
        clear em
        obtain ⟨q7, e9, hf⟩ := Option.bind_eq_some_iff.mp hf
        have hF := hF.trans ((mf_X0_priceNext e9).mono (by omega) (by omega) (fun k hk => by simp at hk))
        clear e9
        obtain ⟨m8, em, hf⟩ := lt_e hf
        have hF := Fc_sI hF em (Or.inl (by omega))
        clear em
        obtain ⟨-, hf⟩ := ite_some hf
        obtain ⟨m9, em, hf⟩ := lt_e hf
        have hF := Fc_sI hF em (Or.inl (by omega))
        clear em
        obtain ⟨v10, -, hf⟩ := lt_e hf
        exact hk65 hF hf
set_option maxRecDepth 100000 in
theorem mf_X0_giveByPrices_6 {a0 : Nat} {hs : Hp} {o : Int32 × Hp}  : ∀ (n : Nat) {a1 : Nat} {x2 : Int32} {x3 : Int32} {x4 : Int32} {x5 : Int32}  {h : Hp}, Fc a0 (a0 + 9) [] hs h → lp (F := Nat → Nat → Int32 → Int32 → Int32 → Int32 → Hp → Option (Int32 × Hp)) (fun _ _ _ _ _ _ _ => none) (f_X0_giveByPrices_6) n a0 a1 x2 x3 x4 x5 h = some o → Fc a0 (a0 + 9) [] hs o.2 := by
  intro n
  induction n with
  | zero =>
    intro a1 x2 x3 x4 x5  h hF hf
    have hf : (none : Option (Int32 × Hp)) = some o := hf
    cases hf
  | succ n hk6 =>
    intro a1 x2 x3 x4 x5  h hF hf
    have hf : f_X0_giveByPrices_6  (lp (F := Nat → Nat → Int32 → Int32 → Int32 → Int32 → Hp → Option (Int32 × Hp)) (fun _ _ _ _ _ _ _ => none) (f_X0_giveByPrices_6) n) a0 a1 x2 x3 x4 x5 h = some o := hf
    unfold f_X0_giveByPrices_6 at hf
    rcases ite_or hf with hf | hf
    · rcases ite_or hf with hf | hf
      · exact mf_X0_giveByPrices_65  1000 hF hf
      · obtain ⟨-, hf⟩ := ite_some hf
        obtain rfl := Option.some.inj hf
        exact hF
    · obtain ⟨-, hf⟩ := ite_some hf
      obtain ⟨-, hf⟩ := ite_some hf
      obtain ⟨m1, em, hf⟩ := lt_e hf
      have hF := Fc_sI hF em (Or.inl (by omega))
      clear em
      obtain ⟨-, hf⟩ := ite_some hf
      obtain ⟨v2, -, hf⟩ := lt_e hf
      obtain ⟨q3, e9, hf⟩ := Option.bind_eq_some_iff.mp hf
      have hF := hF.trans ((mf_X0_priceNext e9).mono (by omega) (by omega) (fun k hk => by simp at hk))
      clear e9
      obtain ⟨v4, -, hf⟩ := lt_e hf
      exact hk6 hF hf
set_option maxRecDepth 100000 in
theorem mf_X0_giveByPrices {a0 : Nat} {a1 : Nat} {x2 : Int32} {x3 : Int32} {h : Hp} {o : Int32 × Hp} (hf : f_X0_giveByPrices a0 a1 x2 x3 h = some o) : Fc a0 (a0 + 9) [] h o.2 := by
  have hF : Fc a0 (a0 + 9) [] h h := Fc.refl
  unfold f_X0_giveByPrices at hf
  exact mf_X0_giveByPrices_6  1000 hF hf
set_option maxRecDepth 100000 in
theorem mf_X3_listBits_34  {hs : Hp} {o : Int32 × Hp} {k9 : Nat → Int32 → Int32 → Int32 → Hp → Option (Int32 × Hp)} (hk9 : ∀ {a0 : Nat} {x1 : Int32} {x2 : Int32} {x3 : Int32}  {h : Hp}, Fc 0 0 [] hs h → k9 a0 x1 x2 x3 h = some o → Fc 0 0 [] hs o.2) {a0 : Nat} {x1 : Int32} {x2 : Int32} {x3 : Int32}  {h : Hp} (hF : Fc 0 0 [] hs h) (hf : f_X3_listBits_34 k9 a0 x1 x2 x3 h = some o) : Fc 0 0 [] hs o.2 := by
  unfold f_X3_listBits_34 at hf
  obtain ⟨v4, -, hf⟩ := lt_e hf
  exact hk9 hF hf
set_option maxRecDepth 100000 in
theorem mf_X3_listBits_9  {hs : Hp} {o : Int32 × Hp}  : ∀ (n : Nat) {a0 : Nat} {x1 : Int32} {x2 : Int32} {x3 : Int32}  {h : Hp}, Fc 0 0 [] hs h → lp (F := Nat → Int32 → Int32 → Int32 → Hp → Option (Int32 × Hp)) (fun _ _ _ _ _ => none) (f_X3_listBits_9) n a0 x1 x2 x3 h = some o → Fc 0 0 [] hs o.2 := by
  intro n
  induction n with
  | zero =>
    intro a0 x1 x2 x3  h hF hf
    have hf : (none : Option (Int32 × Hp)) = some o := hf
    cases hf
  | succ n hk9 =>
    intro a0 x1 x2 x3  h hF hf
    have hf : f_X3_listBits_9  (lp (F := Nat → Int32 → Int32 → Int32 → Hp → Option (Int32 × Hp)) (fun _ _ _ _ _ => none) (f_X3_listBits_9) n) a0 x1 x2 x3 h = some o := hf
    unfold f_X3_listBits_9 at hf
    rcases ite_or hf with hf | hf
    · obtain rfl := Option.some.inj hf
      exact hF
    · obtain ⟨q2, e9, hf⟩ := Option.bind_eq_some_iff.mp hf
      have e9 := mf_X8_holds e9
      have hF := hF.eqr e9
      clear e9
      rcases ite_or hf with hf | hf
      · exact mf_X3_listBits_34 hk9 hF hf
      · obtain ⟨-, hf⟩ := ite_some hf
        obtain ⟨v3, -, hf⟩ := lt_e hf
        exact mf_X3_listBits_34 hk9 hF hf
set_option maxRecDepth 100000 in
theorem mf_X3_listBits {a0 : Nat} {h : Hp} {o : Int32 × Hp} (hf : f_X3_listBits a0 h = some o) : h = o.2 := by
  refine Fc_eq ?_
  have hF : Fc 0 0 [] h h := Fc.refl
  unfold f_X3_listBits at hf
  obtain ⟨q1, e9, hf⟩ := Option.bind_eq_some_iff.mp hf
  have e9 := mf_X3_inBits e9
  have hF := hF.eqr e9
  clear e9
  exact mf_X3_listBits_9  1000 hF hf
set_option maxRecDepth 100000 in
theorem mf_X8_in {a0 : Nat} {h : Hp} {o : Int32 × Hp} (hf : f_X8_in a0 h = some o) : h = o.2 := by
  refine Fc_eq ?_
  have hF : Fc 0 0 [] h h := Fc.refl
  unfold f_X8_in at hf
  obtain ⟨q1, e9, hf⟩ := Option.bind_eq_some_iff.mp hf
  have e9 := mf_X3_inBits e9
  have hF := hF.eqr e9
  clear e9
  obtain rfl := Option.some.inj hf
  exact hF
set_option maxRecDepth 100000 in
theorem mf_X8_read {a0 : Nat} {x1 : Int32} {h : Hp} {o : Int32 × Hp} (hf : f_X8_read a0 x1 h = some o) : Fc a0 (a0 + 108) [] h o.2 := by
  have hF : Fc a0 (a0 + 108) [] h h := Fc.refl
  unfold f_X8_read at hf
  obtain ⟨q1, e9, hf⟩ := Option.bind_eq_some_iff.mp hf
  have e9 := mf_X8_within e9
  have hF := hF.eqr e9
  clear e9
  rcases ite_or hf with hf | hf
  · obtain rfl := Option.some.inj hf
    exact hF
  · obtain ⟨q2, e9, hf⟩ := Option.bind_eq_some_iff.mp hf
    have hF := hF.trans ((mf_X7_parse e9).mono (by omega) (by omega) (fun k hk => by simp only [List.mem_cons, List.not_mem_nil, or_false] at hk; first | (left; omega) | (right; simp only [List.mem_cons, List.not_mem_nil, or_false]; omega)))
    clear e9
    obtain ⟨m3, em, hf⟩ := lt_e hf
    have hF := Fc_sI hF em (Or.inl (by omega))
    clear em
    rcases ite_or hf with hf | hf
    · obtain rfl := Option.some.inj hf
      exact hF
    · obtain ⟨q4, e9, hf⟩ := Option.bind_eq_some_iff.mp hf
      have hF := hF.trans ((mf_X3_copyFrom e9).mono (by omega) (by omega) (fun k hk => by simp at hk))
      clear e9
      obtain ⟨q5, e9, hf⟩ := Option.bind_eq_some_iff.mp hf
      have hF := hF.trans ((mf_X2_forget e9).mono (by omega) (by omega) (fun k hk => by simp at hk))
      clear e9
      obtain rfl := Option.some.inj hf
      exact hF
set_option maxRecDepth 100000 in
theorem mf_X0_give {a0 : Nat} {a1 : Nat} {x2 : Int32} {x3 : Int32} {h : Hp} {o : Int32 × Hp} (hf : f_X0_give a0 a1 x2 x3 h = some o) : Fc a0 (a0 + 9) [] h o.2 := by
  have hF : Fc a0 (a0 + 9) [] h h := Fc.refl
  unfold f_X0_give at hf
  rcases ite_or hf with hf | hf
  · rcases ite_or hf with hf | hf
    · obtain ⟨-, hf⟩ := ite_some hf
      obtain rfl := Option.some.inj hf
      exact hF
    · obtain ⟨-, hf⟩ := ite_some hf
      obtain rfl := Option.some.inj hf
      exact hF
  · rcases ite_or hf with hf | hf
    · obtain ⟨q2, e9, hf⟩ := Option.bind_eq_some_iff.mp hf
      have hF := hF.trans ((mf_X0_giveByRests e9).mono (by omega) (by omega) (fun k hk => by simp at hk))
      clear e9
      obtain ⟨-, hf⟩ := ite_some hf
      obtain rfl := Option.some.inj hf
      exact hF
    · obtain ⟨q1, e9, hf⟩ := Option.bind_eq_some_iff.mp hf
      have hF := hF.trans ((mf_X0_giveByPrices e9).mono (by omega) (by omega) (fun k hk => by simp at hk))
      clear e9
      obtain ⟨-, hf⟩ := ite_some hf
      obtain rfl := Option.some.inj hf
      exact hF
set_option maxRecDepth 100000 in
theorem mf_X8_told_75  {hs : Hp} {o : Int32 × Hp}  {a0 : Nat} {x1 : Int32}  {h : Hp} (hF : Fc 0 0 [] hs h) (hf : f_X8_told_75  a0 x1 h = some o) : Fc 0 0 [] hs o.2 := by
  unfold f_X8_told_75 at hf
  rcases ite_or hf with hf | hf
  · obtain ⟨q1, e9, hf⟩ := Option.bind_eq_some_iff.mp hf
    have e9 := mf_X3_sumOfAll e9
    have hF := hF.eqr e9
    clear e9
    obtain rfl := Option.some.inj hf
    exact hF
  · rcases ite_or hf with hf | hf
    · obtain ⟨q3, e9, hf⟩ := Option.bind_eq_some_iff.mp hf
      have e9 := mf_X3_sumOfSeats e9
      have hF := hF.eqr e9
      clear e9
      obtain rfl := Option.some.inj hf
      exact hF
    · rcases ite_or hf with hf | hf
      · obtain rfl := Option.some.inj hf
        exact hF
      · rcases ite_or hf with hf | hf
        · obtain rfl := Option.some.inj hf
          exact hF
        · rcases ite_or hf with hf | hf
          · obtain rfl := Option.some.inj hf
            exact hF
          · rcases ite_or hf with hf | hf
            · obtain rfl := Option.some.inj hf
              exact hF
            · rcases ite_or hf with hf | hf
              · obtain rfl := Option.some.inj hf
                exact hF
              · rcases ite_or hf with hf | hf
                · obtain rfl := Option.some.inj hf
                  exact hF
                · rcases ite_or hf with hf | hf
                  · obtain ⟨q11, e9, hf⟩ := Option.bind_eq_some_iff.mp hf
                    have e9 := mf_X3_listBits e9
                    have hF := hF.eqr e9
                    clear e9
                    obtain rfl := Option.some.inj hf
                    exact hF
                  · rcases ite_or hf with hf | hf
                    · obtain ⟨q13, e9, hf⟩ := Option.bind_eq_some_iff.mp hf
                      have e9 := mf_X3_wardBits e9
                      have hF := hF.eqr e9
                      clear e9
                      obtain rfl := Option.some.inj hf
                      exact hF
                    · obtain rfl := Option.some.inj hf
                      exact hF
set_option maxRecDepth 100000 in
theorem mf_X8_told_50  {hs : Hp} {o : Int32 × Hp}  {a0 : Nat} {x1 : Int32}  {h : Hp} (hF : Fc 0 0 [] hs h) (hf : f_X8_told_50  a0 x1 h = some o) : Fc 0 0 [] hs o.2 := by
  unfold f_X8_told_50 at hf
  rcases ite_or hf with hf | hf
  · exact mf_X8_told_75  hF hf
  · rcases ite_or hf with hf | hf
    · exact mf_X8_told_75  hF hf
    · obtain ⟨-, hf⟩ := ite_some hf
      obtain rfl := Option.some.inj hf
      exact hF
set_option maxRecDepth 100000 in
theorem mf_X8_told_25  {hs : Hp} {o : Int32 × Hp}  {a0 : Nat} {x1 : Int32}  {h : Hp} (hF : Fc 0 0 [] hs h) (hf : f_X8_told_25  a0 x1 h = some o) : Fc 0 0 [] hs o.2 := by
  unfold f_X8_told_25 at hf
  rcases ite_or hf with hf | hf
  · exact mf_X8_told_50  hF hf
  · rcases ite_or hf with hf | hf
    · exact mf_X8_told_50  hF hf
    · obtain ⟨-, hf⟩ := ite_some hf
      obtain rfl := Option.some.inj hf
      exact hF
set_option maxRecDepth 100000 in
theorem mf_X8_told {a0 : Nat} {x1 : Int32} {h : Hp} {o : Int32 × Hp} (hf : f_X8_told a0 x1 h = some o) : h = o.2 := by
  refine Fc_eq ?_
  have hF : Fc 0 0 [] h h := Fc.refl
  unfold f_X8_told at hf
  rcases ite_or hf with hf | hf
  · exact mf_X8_told_25  hF hf
  · rcases ite_or hf with hf | hf
    · exact mf_X8_told_25  hF hf
    · obtain ⟨-, hf⟩ := ite_some hf
      obtain rfl := Option.some.inj hf
      exact hF
set_option maxRecDepth 100000 in
theorem mf_X1_fill_80 {a0 : Nat} {hs : Hp} {o : Int32 × Hp} {k39 : Nat → Nat → Int32 → Int32 → Hp → Option (Int32 × Hp)} (hk39 : ∀ {a1 : Nat} {x2 : Int32} {x4 : Int32}  {h : Hp}, Fc a0 (a0 + 20) [] hs h → k39 a0 a1 x2 x4 h = some o → Fc a0 (a0 + 20) [] hs o.2) : ∀ (n : Nat) {a1 : Nat} {x2 : Int32} {x4 : Int32} {x5 : Int32}  {h : Hp}, Fc a0 (a0 + 20) [] hs h → lp (F := Nat → Nat → Int32 → Int32 → Int32 → Hp → Option (Int32 × Hp)) (fun _ _ _ _ _ _ => none) (f_X1_fill_80 k39) n a0 a1 x2 x4 x5 h = some o → Fc a0 (a0 + 20) [] hs o.2 := by
  intro n
  induction n with
  | zero =>
    intro a1 x2 x4 x5  h hF hf
    have hf : (none : Option (Int32 × Hp)) = some o := hf
    cases hf
  | succ n hk80 =>
    intro a1 x2 x4 x5  h hF hf
    have hf : f_X1_fill_80 k39 (lp (F := Nat → Nat → Int32 → Int32 → Int32 → Hp → Option (Int32 × Hp)) (fun _ _ _ _ _ _ => none) (f_X1_fill_80 k39) n) a0 a1 x2 x4 x5 h = some o := hf
    unfold f_X1_fill_80 at hf
    rcases ite_or hf with hf | hf
    · obtain ⟨v8, -, hf⟩ := lt_e hf
      exact hk39 hF hf
    · obtain ⟨-, hf⟩ := ite_some hf
      obtain ⟨-, hf⟩ := ite_some hf
      obtain ⟨-, hf⟩ := ite_some hf
      obtain ⟨m9, em, hf⟩ := lt_e hf
      have hF := Fc_sI hF em (Or.inl (by omega))
      clear em
      obtain ⟨v10, -, hf⟩ := lt_e hf
      exact hk80 hF hf
set_option maxRecDepth 100000 in
theorem mf_X1_fill_39 {a0 : Nat} {hs : Hp} {o : Int32 × Hp}  : ∀ (n : Nat) {a1 : Nat} {x2 : Int32} {x4 : Int32}  {h : Hp}, Fc a0 (a0 + 20) [] hs h → lp (F := Nat → Nat → Int32 → Int32 → Hp → Option (Int32 × Hp)) (fun _ _ _ _ _ => none) (f_X1_fill_39) n a0 a1 x2 x4 h = some o → Fc a0 (a0 + 20) [] hs o.2 := by
  intro n
  induction n with
  | zero =>
    intro a1 x2 x4  h hF hf
    have hf : (none : Option (Int32 × Hp)) = some o := hf
    cases hf
  | succ n hk39 =>
    intro a1 x2 x4  h hF hf
    have hf : f_X1_fill_39  (lp (F := Nat → Nat → Int32 → Int32 → Hp → Option (Int32 × Hp)) (fun _ _ _ _ _ => none) (f_X1_fill_39) n) a0 a1 x2 x4 h = some o := hf
    unfold f_X1_fill_39 at hf
    rcases ite_or hf with hf | hf
    · obtain ⟨-, hf⟩ := ite_some hf
      obtain rfl := Option.some.inj hf
      exact hF
    · obtain ⟨q6, e9, hf⟩ := Option.bind_eq_some_iff.mp hf
      have hF := hF.trans ((mf_X1_enterMembers e9).mono (by omega) (by omega) (fun k hk => by simp at hk))
      clear e9
      obtain ⟨-, hf⟩ := ite_some hf
      obtain ⟨q7, e9, hf⟩ := Option.bind_eq_some_iff.mp hf
      have hF := hF.trans ((mf_X0_give e9).mono (by omega) (by omega) (fun k hk => by simp at hk))
      clear e9
      rcases ite_or hf with hf | hf
      · obtain ⟨-, hf⟩ := ite_some hf
        obtain rfl := Option.some.inj hf
        exact hF
      · exact mf_X1_fill_80 hk39 1000 hF hf
set_option maxRecDepth 100000 in
theorem mf_X1_fill {a0 : Nat} {a1 : Nat} {x2 : Int32} {x3 : Int32} {h : Hp} {o : Int32 × Hp} (hf : f_X1_fill a0 a1 x2 x3 h = some o) : Fc a0 (a0 + 20) [] h o.2 := by
  have hF : Fc a0 (a0 + 20) [] h h := Fc.refl
  unfold f_X1_fill at hf
  obtain ⟨q1, e9, hf⟩ := Option.bind_eq_some_iff.mp hf
  have hF := hF.trans ((mf_J7_fill_53178 e9).mono0 (fun k hk => by simp only [List.mem_cons, List.not_mem_nil, or_false] at hk; first | (left; omega) | (right; simp only [List.mem_cons, List.not_mem_nil, or_false]; omega)))
  clear e9
  obtain ⟨q2, e9, hf⟩ := Option.bind_eq_some_iff.mp hf
  have e9 := mf_X3_inBits e9
  have hF := hF.eqr e9
  clear e9
  obtain ⟨m3, em, hf⟩ := lt_e hf
  have hF := Fc_sI hF em (Or.inl (by omega))
  clear em
  obtain ⟨q4, e9, hf⟩ := Option.bind_eq_some_iff.mp hf
  have hF := hF.trans ((mf_X1_enterLists e9).mono (by omega) (by omega) (fun k hk => by simp at hk))
  clear e9
  obtain ⟨q5, e9, hf⟩ := Option.bind_eq_some_iff.mp hf
  have hF := hF.trans ((mf_X0_give e9).mono (by omega) (by omega) (fun k hk => by simp at hk))
  clear e9
  rcases ite_or hf with hf | hf
  · obtain ⟨-, hf⟩ := ite_some hf
    obtain rfl := Option.some.inj hf
    exact hF
  · exact mf_X1_fill_39  1000 hF hf
set_option maxRecDepth 100000 in
theorem mf_X2_elsewhere_148 {a0 : Nat} {hs : Hp} {o : Int32 × Hp} {k4 : Nat → Nat → Int32 → Int32 → Hp → Option (Int32 × Hp)} (hk4 : ∀ {a1 : Nat} {x2 : Int32} {x3 : Int32}  {h : Hp}, Fc a0 (a0 + 40) [] hs h → k4 a0 a1 x2 x3 h = some o → Fc a0 (a0 + 40) [] hs o.2) {a1 : Nat} {x2 : Int32} {x3 : Int32}  {h : Hp} (hF : Fc a0 (a0 + 40) [] hs h) (hf : f_X2_elsewhere_148 k4 a0 a1 x2 x3 h = some o) : Fc a0 (a0 + 40) [] hs o.2 := by
  unfold f_X2_elsewhere_148 at hf
  obtain ⟨v2, -, hf⟩ := lt_e hf
  exact hk4 hF hf
set_option maxRecDepth 100000 in
theorem mf_X2_elsewhere_107 {a0 : Nat} {hs : Hp} {o : Int32 × Hp} {k4 : Nat → Nat → Int32 → Int32 → Hp → Option (Int32 × Hp)} (hk4 : ∀ {a1 : Nat} {x2 : Int32} {x3 : Int32}  {h : Hp}, Fc a0 (a0 + 40) [] hs h → k4 a0 a1 x2 x3 h = some o → Fc a0 (a0 + 40) [] hs o.2) : ∀ (n : Nat) {a1 : Nat} {x2 : Int32} {x3 : Int32} {x4 : Int32}  {h : Hp}, Fc a0 (a0 + 40) [] hs h → lp (F := Nat → Nat → Int32 → Int32 → Int32 → Hp → Option (Int32 × Hp)) (fun _ _ _ _ _ _ => none) (f_X2_elsewhere_107 k4) n a0 a1 x2 x3 x4 h = some o → Fc a0 (a0 + 40) [] hs o.2 := by
  intro n
  induction n with
  | zero =>
    intro a1 x2 x3 x4  h hF hf
    have hf : (none : Option (Int32 × Hp)) = some o := hf
    cases hf
  | succ n hk107 =>
    intro a1 x2 x3 x4  h hF hf
    have hf : f_X2_elsewhere_107 k4 (lp (F := Nat → Nat → Int32 → Int32 → Int32 → Hp → Option (Int32 × Hp)) (fun _ _ _ _ _ _ => none) (f_X2_elsewhere_107 k4) n) a0 a1 x2 x3 x4 h = some o := hf
    unfold f_X2_elsewhere_107 at hf
    rcases ite_or hf with hf | hf
    · exact mf_X2_elsewhere_148 hk4 hF hf
    · obtain ⟨q7, e9, hf⟩ := Option.bind_eq_some_iff.mp hf
      have e9 := mf_X8_cellOf e9
      have hF := hF.eqr e9
      clear e9
      obtain ⟨-, hf⟩ := ite_some hf
      obtain ⟨-, hf⟩ := ite_some hf
      obtain ⟨v8, -, hf⟩ := lt_e hf
      obtain ⟨v9, -, hf⟩ := lt_e hf
      exact hk107 hF hf
set_option maxRecDepth 100000 in
theorem mf_X2_elsewhere_74 {a0 : Nat} {hs : Hp} {o : Int32 × Hp} {k4 : Nat → Nat → Int32 → Int32 → Hp → Option (Int32 × Hp)} (hk4 : ∀ {a1 : Nat} {x2 : Int32} {x3 : Int32}  {h : Hp}, Fc a0 (a0 + 40) [] hs h → k4 a0 a1 x2 x3 h = some o → Fc a0 (a0 + 40) [] hs o.2) {k31 : Nat → Nat → Int32 → Int32 → Int32 → Hp → Option (Int32 × Hp)} (hk31 : ∀ {a1 : Nat} {x2 : Int32} {x3 : Int32} {x4 : Int32}  {h : Hp}, Fc a0 (a0 + 40) [] hs h → k31 a0 a1 x2 x3 x4 h = some o → Fc a0 (a0 + 40) [] hs o.2) {a1 : Nat} {x2 : Int32} {x3 : Int32} {x4 : Int32}  {h : Hp} (hF : Fc a0 (a0 + 40) [] hs h) (hf : f_X2_elsewhere_74 k4 k31 a0 a1 x2 x3 x4 h = some o) : Fc a0 (a0 + 40) [] hs o.2 := by
  unfold f_X2_elsewhere_74 at hf
  obtain ⟨v10, -, hf⟩ := lt_e hf
  exact hk31 hF hf
set_option maxRecDepth 100000 in
theorem mf_X2_elsewhere_31 {a0 : Nat} {hs : Hp} {o : Int32 × Hp} {k4 : Nat → Nat → Int32 → Int32 → Hp → Option (Int32 × Hp)} (hk4 : ∀ {a1 : Nat} {x2 : Int32} {x3 : Int32}  {h : Hp}, Fc a0 (a0 + 40) [] hs h → k4 a0 a1 x2 x3 h = some o → Fc a0 (a0 + 40) [] hs o.2) : ∀ (n : Nat) {a1 : Nat} {x2 : Int32} {x3 : Int32} {x4 : Int32}  {h : Hp}, Fc a0 (a0 + 40) [] hs h → lp (F := Nat → Nat → Int32 → Int32 → Int32 → Hp → Option (Int32 × Hp)) (fun _ _ _ _ _ _ => none) (f_X2_elsewhere_31 k4) n a0 a1 x2 x3 x4 h = some o → Fc a0 (a0 + 40) [] hs o.2 := by
  intro n
  induction n with
  | zero =>
    intro a1 x2 x3 x4  h hF hf
    have hf : (none : Option (Int32 × Hp)) = some o := hf
    cases hf
  | succ n hk31 =>
    intro a1 x2 x3 x4  h hF hf
    have hf : f_X2_elsewhere_31 k4 (lp (F := Nat → Nat → Int32 → Int32 → Int32 → Hp → Option (Int32 × Hp)) (fun _ _ _ _ _ _ => none) (f_X2_elsewhere_31 k4) n) a0 a1 x2 x3 x4 h = some o := hf
    unfold f_X2_elsewhere_31 at hf
    rcases ite_or hf with hf | hf
    · obtain ⟨-, hf⟩ := ite_some hf
      obtain ⟨q3, e9, hf⟩ := Option.bind_eq_some_iff.mp hf
      have hF := hF.trans ((mf_X0_give e9).mono (by omega) (by omega) (fun k hk => by simp at hk))
      clear e9
      rcases ite_or hf with hf | hf
      · obtain rfl := Option.some.inj hf
        exact hF
      · exact mf_X2_elsewhere_107 hk4 1000 hF hf
    · obtain ⟨q4, e9, hf⟩ := Option.bind_eq_some_iff.mp hf
      have e9 := mf_X8_holds e9
      have hF := hF.eqr e9
      clear e9
      rcases ite_or hf with hf | hf
      · exact mf_X2_elsewhere_74 hk4 hk31 hF hf
      · obtain ⟨q5, e9, hf⟩ := Option.bind_eq_some_iff.mp hf
        have e9 := mf_X8_cellOf e9
        have hF := hF.eqr e9
        clear e9
        obtain ⟨-, hf⟩ := ite_some hf
        obtain ⟨q6, e9, hf⟩ := Option.bind_eq_some_iff.mp hf
        have hF := hF.trans ((mf_X0_enter e9).mono (by omega) (by omega) (fun k hk => by simp at hk))
        clear e9
        exact mf_X2_elsewhere_74 hk4 hk31 hF hf
set_option maxRecDepth 100000 in
theorem mf_X2_elsewhere_4 {a0 : Nat} {hs : Hp} {o : Int32 × Hp}  : ∀ (n : Nat) {a1 : Nat} {x2 : Int32} {x3 : Int32}  {h : Hp}, Fc a0 (a0 + 40) [] hs h → lp (F := Nat → Nat → Int32 → Int32 → Hp → Option (Int32 × Hp)) (fun _ _ _ _ _ => none) (f_X2_elsewhere_4) n a0 a1 x2 x3 h = some o → Fc a0 (a0 + 40) [] hs o.2 := by
  intro n
  induction n with
  | zero =>
    intro a1 x2 x3  h hF hf
    have hf : (none : Option (Int32 × Hp)) = some o := hf
    cases hf
  | succ n hk4 =>
    intro a1 x2 x3  h hF hf
    have hf : f_X2_elsewhere_4  (lp (F := Nat → Nat → Int32 → Int32 → Hp → Option (Int32 × Hp)) (fun _ _ _ _ _ => none) (f_X2_elsewhere_4) n) a0 a1 x2 x3 h = some o := hf
    unfold f_X2_elsewhere_4 at hf
    rcases ite_or hf with hf | hf
    · obtain ⟨-, hf⟩ := ite_none hf
      obtain rfl := Option.some.inj hf
      exact hF
    · obtain ⟨-, hf⟩ := ite_some hf
      rcases ite_or hf with hf | hf
      · exact mf_X2_elsewhere_148 hk4 hF hf
      · obtain ⟨q1, e9, hf⟩ := Option.bind_eq_some_iff.mp hf
        have hF := hF.trans ((mf_X0_empty e9).mono (by omega) (by omega) (fun k hk => by simp at hk))
        clear e9
        exact mf_X2_elsewhere_31 hk4 1000 hF hf
set_option maxRecDepth 100000 in
theorem mf_X2_elsewhere {a0 : Nat} {a1 : Nat} {h : Hp} {o : Int32 × Hp} (hf : f_X2_elsewhere a0 a1 h = some o) : Fc a0 (a0 + 40) [] h o.2 := by
  have hF : Fc a0 (a0 + 40) [] h h := Fc.refl
  unfold f_X2_elsewhere at hf
  exact mf_X2_elsewhere_4  1000 hF hf
set_option maxRecDepth 100000 in
theorem mf_X8_differ {a0 : Nat} {x1 : Int32} {x2 : Int32} {x3 : Int32} {h : Hp} {o : Int32 × Hp} (hf : f_X8_differ a0 x1 x2 x3 h = some o) : Fc a0 (a0 + 108) [] h o.2 := by
  have hF : Fc a0 (a0 + 108) [] h h := Fc.refl
  unfold f_X8_differ at hf
  obtain ⟨q1, e9, hf⟩ := Option.bind_eq_some_iff.mp hf
  have e9 := mf_X8_within e9
  have hF := hF.eqr e9
  clear e9
  rcases ite_or hf with hf | hf
  · obtain rfl := Option.some.inj hf
    exact hF
  · obtain ⟨q2, e9, hf⟩ := Option.bind_eq_some_iff.mp hf
    have e9 := mf_X8_within e9
    have hF := hF.eqr e9
    clear e9
    rcases ite_or hf with hf | hf
    · obtain rfl := Option.some.inj hf
      exact hF
    · obtain ⟨q3, e9, hf⟩ := Option.bind_eq_some_iff.mp hf
      have e9 := mf_X8_within e9
      have hF := hF.eqr e9
      clear e9
      rcases ite_or hf with hf | hf
      · obtain rfl := Option.some.inj hf
        exact hF
      · obtain ⟨q4, e9, hf⟩ := Option.bind_eq_some_iff.mp hf
        have hF := hF.trans ((mf_X1_fill e9).mono (by omega) (by omega) (fun k hk => by simp at hk))
        clear e9
        rcases ite_or hf with hf | hf
        · obtain rfl := Option.some.inj hf
          exact hF
        · obtain ⟨q5, e9, hf⟩ := Option.bind_eq_some_iff.mp hf
          have hF := hF.trans ((mf_X1_fill e9).mono (by omega) (by omega) (fun k hk => by simp at hk))
          clear e9
          rcases ite_or hf with hf | hf
          · obtain rfl := Option.some.inj hf
            exact hF
          · obtain ⟨q6, e9, hf⟩ := Option.bind_eq_some_iff.mp hf
            have e9 := mf_X1_awayFrom e9
            have hF := hF.eqr e9
            clear e9
            obtain ⟨-, hf⟩ := ite_none hf
            obtain rfl := Option.some.inj hf
            exact hF
set_option maxRecDepth 100000 in
theorem mf_X8_fillByPrices {a0 : Nat} {x1 : Int32} {h : Hp} {o : Int32 × Hp} (hf : f_X8_fillByPrices a0 x1 h = some o) : Fc a0 (a0 + 108) [] h o.2 := by
  have hF : Fc a0 (a0 + 108) [] h h := Fc.refl
  unfold f_X8_fillByPrices at hf
  obtain ⟨q1, e9, hf⟩ := Option.bind_eq_some_iff.mp hf
  have e9 := mf_X8_within e9
  have hF := hF.eqr e9
  clear e9
  rcases ite_or hf with hf | hf
  · obtain rfl := Option.some.inj hf
    exact hF
  · rcases ite_or hf with hf | hf
    · obtain rfl := Option.some.inj hf
      exact hF
    · obtain ⟨q2, e9, hf⟩ := Option.bind_eq_some_iff.mp hf
      have hF := hF.trans ((mf_X1_fill e9).mono (by omega) (by omega) (fun k hk => by simp at hk))
      clear e9
      rcases ite_or hf with hf | hf
      · obtain rfl := Option.some.inj hf
        exact hF
      · obtain rfl := Option.some.inj hf
        exact hF
set_option maxRecDepth 100000 in
theorem mf_X8_fillNow {a0 : Nat} {x1 : Int32} {h : Hp} {o : Int32 × Hp} (hf : f_X8_fillNow a0 x1 h = some o) : Fc a0 (a0 + 108) [] h o.2 := by
  have hF : Fc a0 (a0 + 108) [] h h := Fc.refl
  unfold f_X8_fillNow at hf
  obtain ⟨q1, e9, hf⟩ := Option.bind_eq_some_iff.mp hf
  have e9 := mf_X8_within e9
  have hF := hF.eqr e9
  clear e9
  rcases ite_or hf with hf | hf
  · obtain rfl := Option.some.inj hf
    exact hF
  · obtain ⟨q2, e9, hf⟩ := Option.bind_eq_some_iff.mp hf
    have hF := hF.trans ((mf_X1_fill e9).mono (by omega) (by omega) (fun k hk => by simp at hk))
    clear e9
    rcases ite_or hf with hf | hf
    · obtain rfl := Option.some.inj hf
      exact hF
    · obtain rfl := Option.some.inj hf
      exact hF
set_option maxRecDepth 100000 in
theorem mf_X8_loser {a0 : Nat} {x1 : Int32} {h : Hp} {o : Int32 × Hp} (hf : f_X8_loser a0 x1 h = some o) : Fc a0 (a0 + 108) [] h o.2 := by
  have hF : Fc a0 (a0 + 108) [] h h := Fc.refl
  unfold f_X8_loser at hf
  rcases ite_or hf with hf | hf
  · obtain rfl := Option.some.inj hf
    exact hF
  · rcases ite_or hf with hf | hf
    · obtain ⟨q1, e9, hf⟩ := Option.bind_eq_some_iff.mp hf
      have hF := hF.trans ((mf_X1_fill e9).mono (by omega) (by omega) (fun k hk => by simp at hk))
      clear e9
      rcases ite_or hf with hf | hf
      · obtain rfl := Option.some.inj hf
        exact hF
      · obtain ⟨q2, e9, hf⟩ := Option.bind_eq_some_iff.mp hf
        have hF := hF.trans ((mf_X1_fill e9).mono (by omega) (by omega) (fun k hk => by simp at hk))
        clear e9
        rcases ite_or hf with hf | hf
        · obtain rfl := Option.some.inj hf
          exact hF
        · obtain ⟨q3, e9, hf⟩ := Option.bind_eq_some_iff.mp hf
          have e9 := mf_X1_leastBelow e9
          have hF := hF.eqr e9
          clear e9
          rcases ite_or hf with hf | hf
          · obtain rfl := Option.some.inj hf
            exact hF
          · obtain rfl := Option.some.inj hf
            exact hF
    · obtain rfl := Option.some.inj hf
      exact hF
set_option maxRecDepth 100000 in
theorem mf_X8_loses_108 {a0 : Nat} {hs : Hp} {o : Int32 × Hp} {k60 : Nat → Int32 → Nat → Nat → Int32 → Int32 → Hp → Option (Int32 × Hp)} (hk60 : ∀ {x2 : Int32} {a3 : Nat} {a4 : Nat} {x5 : Int32} {x6 : Int32} (wa3 : a0 ≤ a3 ∧ a3 + 20 ≤ a0 + 108) (wa4 : a0 ≤ a4 ∧ a4 + 20 ≤ a0 + 108) {h : Hp}, Fc a0 (a0 + 108) [] hs h → k60 a0 x2 a3 a4 x5 x6 h = some o → Fc a0 (a0 + 108) [] hs o.2) {x2 : Int32} {a3 : Nat} {a4 : Nat} {x6 : Int32} {x7 : Int32} (wa3 : a0 ≤ a3 ∧ a3 + 20 ≤ a0 + 108) (wa4 : a0 ≤ a4 ∧ a4 + 20 ≤ a0 + 108) {h : Hp} (hF : Fc a0 (a0 + 108) [] hs h) (hf : f_X8_loses_108 k60 a0 x2 a3 a4 x6 x7 h = some o) : Fc a0 (a0 + 108) [] hs o.2 := by
  unfold f_X8_loses_108 at hf
  obtain ⟨v7, -, hf⟩ := lt_e hf
  exact hk60 (by omega) (by omega) hF hf
set_option maxRecDepth 100000 in
theorem mf_X8_loses_60 {a0 : Nat} {hs : Hp} {o : Int32 × Hp}  : ∀ (n : Nat) {x2 : Int32} {a3 : Nat} {a4 : Nat} {x5 : Int32} {x6 : Int32} (wa3 : a0 ≤ a3 ∧ a3 + 20 ≤ a0 + 108) (wa4 : a0 ≤ a4 ∧ a4 + 20 ≤ a0 + 108) {h : Hp}, Fc a0 (a0 + 108) [] hs h → lp (F := Nat → Int32 → Nat → Nat → Int32 → Int32 → Hp → Option (Int32 × Hp)) (fun _ _ _ _ _ _ _ => none) (f_X8_loses_60) n a0 x2 a3 a4 x5 x6 h = some o → Fc a0 (a0 + 108) [] hs o.2 := by
  intro n
  induction n with
  | zero =>
    intro x2 a3 a4 x5 x6 wa3 wa4 h hF hf
    have hf : (none : Option (Int32 × Hp)) = some o := hf
    cases hf
  | succ n hk60 =>
    intro x2 a3 a4 x5 x6 wa3 wa4 h hF hf
    have hf : f_X8_loses_60  (lp (F := Nat → Int32 → Nat → Nat → Int32 → Int32 → Hp → Option (Int32 × Hp)) (fun _ _ _ _ _ _ _ => none) (f_X8_loses_60) n) a0 x2 a3 a4 x5 x6 h = some o := hf
    unfold f_X8_loses_60 at hf
    rcases ite_or hf with hf | hf
    · obtain rfl := Option.some.inj hf
      exact hF
    · obtain ⟨q5, e9, hf⟩ := Option.bind_eq_some_iff.mp hf
      have hF := hF.trans ((mf_X1_fill e9).mono (by omega) (by omega) (fun k hk => by simp at hk))
      clear e9
      rcases ite_or hf with hf | hf
      · exact mf_X8_loses_108 hk60 (by omega) (by omega) hF hf
      · rcases ite_or hf with hf | hf
        · exact mf_X8_loses_108 hk60 (by omega) (by omega) hF hf
        · obtain ⟨q6, e9, hf⟩ := Option.bind_eq_some_iff.mp hf
          have e9 := mf_X1_leastBelow e9
          have hF := hF.eqr e9
          clear e9
          rcases ite_or hf with hf | hf
          · exact mf_X8_loses_108 hk60 (by omega) (by omega) hF hf
          · obtain rfl := Option.some.inj hf
            exact hF
set_option maxRecDepth 100000 in
theorem mf_X8_loses {a0 : Nat} {x1 : Int32} {x2 : Int32} {h : Hp} {o : Int32 × Hp} (hf : f_X8_loses a0 x1 x2 h = some o) : Fc a0 (a0 + 108) [] h o.2 := by
  have hF : Fc a0 (a0 + 108) [] h h := Fc.refl
  unfold f_X8_loses at hf
  obtain ⟨q1, e9, hf⟩ := Option.bind_eq_some_iff.mp hf
  have e9 := mf_X8_within e9
  have hF := hF.eqr e9
  clear e9
  rcases ite_or hf with hf | hf
  · obtain rfl := Option.some.inj hf
    exact hF
  · obtain ⟨q2, e9, hf⟩ := Option.bind_eq_some_iff.mp hf
    have e9 := mf_X8_within e9
    have hF := hF.eqr e9
    clear e9
    rcases ite_or hf with hf | hf
    · obtain rfl := Option.some.inj hf
      exact hF
    · rcases ite_or hf with hf | hf
      · obtain ⟨q3, e9, hf⟩ := Option.bind_eq_some_iff.mp hf
        have hF := hF.trans ((mf_X1_fill e9).mono (by omega) (by omega) (fun k hk => by simp at hk))
        clear e9
        obtain ⟨v4, -, hf⟩ := lt_e hf
        exact mf_X8_loses_60  1000 (by omega) (by omega) hF hf
      · obtain rfl := Option.some.inj hf
        exact hF
set_option maxRecDepth 100000 in
theorem mf_X8_would {a0 : Nat} {x1 : Int32} {x2 : Int32} {x3 : Int32} {x4 : Int32} {h : Hp} {o : Int32 × Hp} (hf : f_X8_would a0 x1 x2 x3 x4 h = some o) : Fc a0 (a0 + 108) [] h o.2 := by
  have hF : Fc a0 (a0 + 108) [] h h := Fc.refl
  unfold f_X8_would at hf
  obtain ⟨q1, e9, hf⟩ := Option.bind_eq_some_iff.mp hf
  have e9 := mf_X8_within e9
  have hF := hF.eqr e9
  clear e9
  rcases ite_or hf with hf | hf
  · obtain rfl := Option.some.inj hf
    exact hF
  · obtain ⟨q2, e9, hf⟩ := Option.bind_eq_some_iff.mp hf
    have e9 := mf_X8_within e9
    have hF := hF.eqr e9
    clear e9
    rcases ite_or hf with hf | hf
    · obtain rfl := Option.some.inj hf
      exact hF
    · obtain ⟨q3, e9, hf⟩ := Option.bind_eq_some_iff.mp hf
      have e9 := mf_X8_within e9
      have hF := hF.eqr e9
      clear e9
      rcases ite_or hf with hf | hf
      · obtain rfl := Option.some.inj hf
        exact hF
      · obtain ⟨q4, e9, hf⟩ := Option.bind_eq_some_iff.mp hf
        have e9 := mf_X8_within e9
        have hF := hF.eqr e9
        clear e9
        rcases ite_or hf with hf | hf
        · obtain rfl := Option.some.inj hf
          exact hF
        · obtain ⟨q5, e9, hf⟩ := Option.bind_eq_some_iff.mp hf
          have hF := hF.trans ((mf_X3_copyFrom e9).mono (by omega) (by omega) (fun k hk => by simp at hk))
          clear e9
          obtain ⟨q6, e9, hf⟩ := Option.bind_eq_some_iff.mp hf
          have e9 := mf_X8_cellOf e9
          have hF := hF.eqr e9
          clear e9
          obtain ⟨-, hf⟩ := ite_some hf
          obtain ⟨m7, em, hf⟩ := lt_e hf
          have hF := Fc_sI hF em (Or.inl (by omega))
          clear em
          obtain ⟨q8, e9, hf⟩ := Option.bind_eq_some_iff.mp hf
          have hF := hF.trans ((mf_X1_fill e9).mono (by omega) (by omega) (fun k hk => by simp at hk))
          clear e9
          rcases ite_or hf with hf | hf
          · obtain rfl := Option.some.inj hf
            exact hF
          · obtain ⟨-, hf⟩ := ite_some hf
            obtain rfl := Option.some.inj hf
            exact hF
set_option maxRecDepth 100000 in
theorem mf_X8_alike_62 {a0 : Nat} {hs : Hp} {o : Int32 × Hp} {k17 : Nat → Int32 → Int32 → Int32 → Hp → Option (Int32 × Hp)} (hk17 : ∀ {x1 : Int32} {x3 : Int32} {x4 : Int32}  {h : Hp}, Fc a0 (a0 + 108) [] hs h → k17 a0 x1 x3 x4 h = some o → Fc a0 (a0 + 108) [] hs o.2) {x1 : Int32} {x3 : Int32} {x4 : Int32}  {h : Hp} (hF : Fc a0 (a0 + 108) [] hs h) (hf : f_X8_alike_62 k17 a0 x1 x3 x4 h = some o) : Fc a0 (a0 + 108) [] hs o.2 := by
  unfold f_X8_alike_62 at hf
  obtain ⟨v5, -, hf⟩ := lt_e hf
  exact hk17 hF hf
set_option maxRecDepth 100000 in
theorem mf_X8_alike_17 {a0 : Nat} {hs : Hp} {o : Int32 × Hp}  : ∀ (n : Nat) {x1 : Int32} {x3 : Int32} {x4 : Int32}  {h : Hp}, Fc a0 (a0 + 108) [] hs h → lp (F := Nat → Int32 → Int32 → Int32 → Hp → Option (Int32 × Hp)) (fun _ _ _ _ _ => none) (f_X8_alike_17) n a0 x1 x3 x4 h = some o → Fc a0 (a0 + 108) [] hs o.2 := by
  intro n
  induction n with
  | zero =>
    intro x1 x3 x4  h hF hf
    have hf : (none : Option (Int32 × Hp)) = some o := hf
    cases hf
  | succ n hk17 =>
    intro x1 x3 x4  h hF hf
    have hf : f_X8_alike_17  (lp (F := Nat → Int32 → Int32 → Int32 → Hp → Option (Int32 × Hp)) (fun _ _ _ _ _ => none) (f_X8_alike_17) n) a0 x1 x3 x4 h = some o := hf
    unfold f_X8_alike_17 at hf
    rcases ite_or hf with hf | hf
    · obtain rfl := Option.some.inj hf
      exact hF
    · obtain ⟨q2, e9, hf⟩ := Option.bind_eq_some_iff.mp hf
      have hF := hF.trans ((mf_X1_fill e9).mono (by omega) (by omega) (fun k hk => by simp at hk))
      clear e9
      rcases ite_or hf with hf | hf
      · exact mf_X8_alike_62 hk17 hF hf
      · obtain ⟨q3, e9, hf⟩ := Option.bind_eq_some_iff.mp hf
        have e9 := mf_X1_awayFrom e9
        have hF := hF.eqr e9
        clear e9
        rcases ite_or hf with hf | hf
        · obtain ⟨v4, -, hf⟩ := lt_e hf
          exact mf_X8_alike_62 hk17 hF hf
        · exact mf_X8_alike_62 hk17 hF hf
set_option maxRecDepth 100000 in
theorem mf_X8_alike {a0 : Nat} {x1 : Int32} {h : Hp} {o : Int32 × Hp} (hf : f_X8_alike a0 x1 h = some o) : Fc a0 (a0 + 108) [] h o.2 := by
  have hF : Fc a0 (a0 + 108) [] h h := Fc.refl
  unfold f_X8_alike at hf
  obtain ⟨q1, e9, hf⟩ := Option.bind_eq_some_iff.mp hf
  have hF := hF.trans ((mf_X8_fillNow e9).mono (by omega) (by omega) (fun k hk => by simp at hk))
  clear e9
  rcases ite_or hf with hf | hf
  · exact mf_X8_alike_17  1000 hF hf
  · obtain rfl := Option.some.inj hf
    exact hF
set_option maxRecDepth 100000 in
theorem mf_X8_given {a0 : Nat} {x1 : Int32} {x2 : Int32} {h : Hp} {o : Int32 × Hp} (hf : f_X8_given a0 x1 x2 h = some o) : Fc a0 (a0 + 108) [] h o.2 := by
  have hF : Fc a0 (a0 + 108) [] h h := Fc.refl
  unfold f_X8_given at hf
  obtain ⟨q1, e9, hf⟩ := Option.bind_eq_some_iff.mp hf
  have hF := hF.trans ((mf_X8_fillByPrices e9).mono (by omega) (by omega) (fun k hk => by simp at hk))
  clear e9
  rcases ite_or hf with hf | hf
  · rcases ite_or hf with hf | hf
    · obtain rfl := Option.some.inj hf
      exact hF
    · rcases ite_or hf with hf | hf
      · obtain ⟨-, hf⟩ := ite_some hf
        obtain rfl := Option.some.inj hf
        exact hF
      · obtain rfl := Option.some.inj hf
        exact hF
  · obtain rfl := Option.some.inj hf
    exact hF
set_option maxRecDepth 100000 in
theorem mf_X8_house {a0 : Nat} {x1 : Int32} {x2 : Int32} {h : Hp} {o : Int32 × Hp} (hf : f_X8_house a0 x1 x2 h = some o) : Fc a0 (a0 + 108) [] h o.2 := by
  have hF : Fc a0 (a0 + 108) [] h h := Fc.refl
  unfold f_X8_house at hf
  obtain ⟨q1, e9, hf⟩ := Option.bind_eq_some_iff.mp hf
  have e9 := mf_X8_within e9
  have hF := hF.eqr e9
  clear e9
  rcases ite_or hf with hf | hf
  · obtain rfl := Option.some.inj hf
    exact hF
  · obtain ⟨q2, e9, hf⟩ := Option.bind_eq_some_iff.mp hf
    have hF := hF.trans ((mf_X8_fillNow e9).mono (by omega) (by omega) (fun k hk => by simp at hk))
    clear e9
    rcases ite_or hf with hf | hf
    · obtain ⟨-, hf⟩ := ite_some hf
      obtain rfl := Option.some.inj hf
      exact hF
    · obtain rfl := Option.some.inj hf
      exact hF
set_option maxRecDepth 100000 in
theorem mf_X8_list {a0 : Nat} {x1 : Int32} {x2 : Int32} {h : Hp} {o : Int32 × Hp} (hf : f_X8_list a0 x1 x2 h = some o) : Fc a0 (a0 + 108) [] h o.2 := by
  have hF : Fc a0 (a0 + 108) [] h h := Fc.refl
  unfold f_X8_list at hf
  obtain ⟨q1, e9, hf⟩ := Option.bind_eq_some_iff.mp hf
  have e9 := mf_X8_within e9
  have hF := hF.eqr e9
  clear e9
  rcases ite_or hf with hf | hf
  · obtain rfl := Option.some.inj hf
    exact hF
  · obtain ⟨q2, e9, hf⟩ := Option.bind_eq_some_iff.mp hf
    have hF := hF.trans ((mf_X8_fillNow e9).mono (by omega) (by omega) (fun k hk => by simp at hk))
    clear e9
    rcases ite_or hf with hf | hf
    · obtain ⟨-, hf⟩ := ite_some hf
      obtain rfl := Option.some.inj hf
      exact hF
    · obtain rfl := Option.some.inj hf
      exact hF
set_option maxRecDepth 100000 in
theorem mf_X8_needs_153 {a0 : Nat} {hs : Hp} {o : Int32 × Hp} {k65 : Nat → Int32 → Int32 → Int32 → Int32 → Int32 → Hp → Option (Int32 × Hp)} (hk65 : ∀ {x2 : Int32} {x3 : Int32} {x5 : Int32} {x6 : Int32} {x7 : Int32}  {h : Hp}, Fc a0 (a0 + 108) [] hs h → k65 a0 x2 x3 x5 x6 x7 h = some o → Fc a0 (a0 + 108) [] hs o.2) {x2 : Int32} {x3 : Int32} {x5 : Int32} {x6 : Int32} {x7 : Int32}  {h : Hp} (hF : Fc a0 (a0 + 108) [] hs h) (hf : f_X8_needs_153 k65 a0 x2 x3 x5 x6 x7 h = some o) : Fc a0 (a0 + 108) [] hs o.2 := by
  unfold f_X8_needs_153 at hf
  obtain ⟨v9, -, hf⟩ := lt_e hf
  exact hk65 hF hf
set_option maxRecDepth 100000 in
theorem mf_X8_needs_65 {a0 : Nat} {hs : Hp} {o : Int32 × Hp}  : ∀ (n : Nat) {x2 : Int32} {x3 : Int32} {x5 : Int32} {x6 : Int32} {x7 : Int32}  {h : Hp}, Fc a0 (a0 + 108) [] hs h → lp (F := Nat → Int32 → Int32 → Int32 → Int32 → Int32 → Hp → Option (Int32 × Hp)) (fun _ _ _ _ _ _ _ => none) (f_X8_needs_65) n a0 x2 x3 x5 x6 x7 h = some o → Fc a0 (a0 + 108) [] hs o.2 := by
  intro n
  induction n with
  | zero =>
    intro x2 x3 x5 x6 x7  h hF hf
    have hf : (none : Option (Int32 × Hp)) = some o := hf
    cases hf
  | succ n hk65 =>
    intro x2 x3 x5 x6 x7  h hF hf
    have hf : f_X8_needs_65  (lp (F := Nat → Int32 → Int32 → Int32 → Int32 → Int32 → Hp → Option (Int32 × Hp)) (fun _ _ _ _ _ _ _ => none) (f_X8_needs_65) n) a0 x2 x3 x5 x6 x7 h = some o := hf
    unfold f_X8_needs_65 at hf
    rcases ite_or hf with hf | hf
    · obtain rfl := Option.some.inj hf
      exact hF
    · obtain ⟨-, hf⟩ := ite_some hf
      rcases ite_or hf with hf | hf
      · obtain rfl := Option.some.inj hf
        exact hF
      · obtain ⟨-, hf⟩ := ite_some hf
        obtain ⟨-, hf⟩ := ite_some hf
        obtain ⟨m7, em, hf⟩ := lt_e hf
        have hF := Fc_sI hF em (Or.inl (by omega))
        clear em
        obtain ⟨q8, e9, hf⟩ := Option.bind_eq_some_iff.mp hf
        have hF := hF.trans ((mf_X1_fill e9).mono (by omega) (by omega) (fun k hk => by simp at hk))
        clear e9
        rcases ite_or hf with hf | hf
        · exact mf_X8_needs_153 hk65 hF hf
        · obtain ⟨-, hf⟩ := ite_some hf
          rcases ite_or hf with hf | hf
          · exact mf_X8_needs_153 hk65 hF hf
          · obtain rfl := Option.some.inj hf
            exact hF
set_option maxRecDepth 100000 in
theorem mf_X8_needs {a0 : Nat} {x1 : Int32} {x2 : Int32} {x3 : Int32} {h : Hp} {o : Int32 × Hp} (hf : f_X8_needs a0 x1 x2 x3 h = some o) : Fc a0 (a0 + 108) [] h o.2 := by
  have hF : Fc a0 (a0 + 108) [] h h := Fc.refl
  unfold f_X8_needs at hf
  obtain ⟨q1, e9, hf⟩ := Option.bind_eq_some_iff.mp hf
  have e9 := mf_X8_within e9
  have hF := hF.eqr e9
  clear e9
  rcases ite_or hf with hf | hf
  · obtain rfl := Option.some.inj hf
    exact hF
  · obtain ⟨q2, e9, hf⟩ := Option.bind_eq_some_iff.mp hf
    have e9 := mf_X8_within e9
    have hF := hF.eqr e9
    clear e9
    rcases ite_or hf with hf | hf
    · obtain rfl := Option.some.inj hf
      exact hF
    · obtain ⟨q3, e9, hf⟩ := Option.bind_eq_some_iff.mp hf
      have hF := hF.trans ((mf_X8_fillNow e9).mono (by omega) (by omega) (fun k hk => by simp at hk))
      clear e9
      rcases ite_or hf with hf | hf
      · obtain ⟨-, hf⟩ := ite_some hf
        obtain ⟨v4, -, hf⟩ := lt_e hf
        obtain ⟨q5, e9, hf⟩ := Option.bind_eq_some_iff.mp hf
        have e9 := mf_X8_cellOf e9
        have hF := hF.eqr e9
        clear e9
        obtain ⟨q6, e9, hf⟩ := Option.bind_eq_some_iff.mp hf
        have hF := hF.trans ((mf_X3_copyFrom e9).mono (by omega) (by omega) (fun k hk => by simp at hk))
        clear e9
        exact mf_X8_needs_65  1000 hF hf
      · obtain rfl := Option.some.inj hf
        exact hF
set_option maxRecDepth 100000 in
theorem mf_X8_quota {a0 : Nat} {x1 : Int32} {h : Hp} {o : Int32 × Hp} (hf : f_X8_quota a0 x1 h = some o) : Fc a0 (a0 + 108) [] h o.2 := by
  have hF : Fc a0 (a0 + 108) [] h h := Fc.refl
  unfold f_X8_quota at hf
  obtain ⟨q1, e9, hf⟩ := Option.bind_eq_some_iff.mp hf
  have hF := hF.trans ((mf_X8_fillNow e9).mono (by omega) (by omega) (fun k hk => by simp at hk))
  clear e9
  rcases ite_or hf with hf | hf
  · obtain ⟨q2, e9, hf⟩ := Option.bind_eq_some_iff.mp hf
    have e9 := mf_X1_outsideQuota e9
    have hF := hF.eqr e9
    clear e9
    obtain rfl := Option.some.inj hf
    exact hF
  · obtain rfl := Option.some.inj hf
    exact hF
set_option maxRecDepth 100000 in
theorem mf_X8_span_70 {a0 : Nat} {hs : Hp} {o : Int64 × Hp}  {x3 : Int32} {y0 : Int32} {y1 : Int32}  {h : Hp} (hF : Fc a0 (a0 + 108) [] hs h) (hf : f_X8_span_70  x3 y0 y1 (a0 + 1) (a0 + 16 + 1) h = some o) : Fc a0 (a0 + 108) [] hs o.2 := by
  unfold f_X8_span_70 at hf
  obtain ⟨q4, e9, hf⟩ := Option.bind_eq_some_iff.mp hf
  have e9 := mf_X0_edge e9
  have hF := hF.eqr e9
  clear e9
  obtain rfl := Option.some.inj hf
  exact hF
set_option maxRecDepth 100000 in
theorem mf_X8_span {a0 : Nat} {x1 : Int32} {x2 : Int32} {x3 : Int32} {h : Hp} {o : Int64 × Hp} (hf : f_X8_span a0 x1 x2 x3 h = some o) : Fc a0 (a0 + 108) [] h o.2 := by
  have hF : Fc a0 (a0 + 108) [] h h := Fc.refl
  unfold f_X8_span at hf
  obtain ⟨q1, e9, hf⟩ := Option.bind_eq_some_iff.mp hf
  have e9 := mf_X8_within e9
  have hF := hF.eqr e9
  clear e9
  rcases ite_or hf with hf | hf
  · obtain rfl := Option.some.inj hf
    exact hF
  · obtain ⟨q2, e9, hf⟩ := Option.bind_eq_some_iff.mp hf
    have e9 := mf_X8_within e9
    have hF := hF.eqr e9
    clear e9
    rcases ite_or hf with hf | hf
    · obtain rfl := Option.some.inj hf
      exact hF
    · rcases ite_or hf with hf | hf
      · obtain rfl := Option.some.inj hf
        exact hF
      · obtain ⟨q3, e9, hf⟩ := Option.bind_eq_some_iff.mp hf
        have hF := hF.trans ((mf_X8_fillByPrices e9).mono (by omega) (by omega) (fun k hk => by simp at hk))
        clear e9
        rcases ite_or hf with hf | hf
        · rcases ite_or hf with hf | hf
          · exact mf_X8_span_70  hF hf
          · exact mf_X8_span_70  hF hf
        · obtain rfl := Option.some.inj hf
          exact hF
set_option maxRecDepth 100000 in
theorem mf_X8_spell {a0 : Nat} {x1 : Int32} {h : Hp} {o : Int32 × Hp} (hf : f_X8_spell a0 x1 h = some o) : Fc a0 (a0 + 108) [] h o.2 := by
  have hF : Fc a0 (a0 + 108) [] h h := Fc.refl
  unfold f_X8_spell at hf
  obtain ⟨q1, e9, hf⟩ := Option.bind_eq_some_iff.mp hf
  have hF := hF.trans ((mf_X8_fillNow e9).mono (by omega) (by omega) (fun k hk => by simp at hk))
  clear e9
  rcases ite_or hf with hf | hf
  · obtain ⟨m2, em, hf⟩ := lt_e hf
    have hF := Fc_sI hF em (Or.inl (by omega))
    clear em
    obtain ⟨q3, e9, hf⟩ := Option.bind_eq_some_iff.mp hf
    have hF := hF.trans ((mf_X5_putSeats e9).mono (by omega) (by omega) (fun k hk => by simp at hk))
    clear e9
    obtain rfl := Option.some.inj hf
    exact hF
  · obtain rfl := Option.some.inj hf
    exact hF
set_option maxRecDepth 100000 in
theorem mf_X8_tie {a0 : Nat} {x1 : Int32} {h : Hp} {o : Int32 × Hp} (hf : f_X8_tie a0 x1 h = some o) : Fc a0 (a0 + 108) [] h o.2 := by
  have hF : Fc a0 (a0 + 108) [] h h := Fc.refl
  unfold f_X8_tie at hf
  obtain ⟨q1, e9, hf⟩ := Option.bind_eq_some_iff.mp hf
  have hF := hF.trans ((mf_X8_fillByPrices e9).mono (by omega) (by omega) (fun k hk => by simp at hk))
  clear e9
  rcases ite_or hf with hf | hf
  · obtain rfl := Option.some.inj hf
    exact hF
  · obtain rfl := Option.some.inj hf
    exact hF
set_option maxRecDepth 100000 in
theorem mf_X4_pickWard_72 {a0 : Nat} {hs : Hp} {o : Int32 × Hp} {fr : Nat → Int32 → Int32 → Hp → Option (Int32 × Hp)} (hfr : ∀ {x1 : Int32} {x2 : Int32} {h : Hp} {o : Int32 × Hp}, fr a0 x1 x2 h = some o → Fc a0 (a0 + 9) [] h o.2) {k25 : Nat → Int32 → Int32 → Int32 → Hp → Option (Int32 × Hp)} (hk25 : ∀ {x1 : Int32} {x2 : Int32} {x3 : Int32}  {h : Hp}, Fc a0 (a0 + 9) [] hs h → k25 a0 x1 x2 x3 h = some o → Fc a0 (a0 + 9) [] hs o.2) {x1 : Int32} {x2 : Int32} {x3 : Int32}  {h : Hp} (hF : Fc a0 (a0 + 9) [] hs h) (hf : f_X4_pickWard_72 fr k25 a0 x1 x2 x3 h = some o) : Fc a0 (a0 + 9) [] hs o.2 := by
  unfold f_X4_pickWard_72 at hf
  obtain ⟨v4, -, hf⟩ := lt_e hf
  exact hk25 hF hf
set_option maxRecDepth 100000 in
theorem mf_X4_pickWard_25 {a0 : Nat} {hs : Hp} {o : Int32 × Hp} {fr : Nat → Int32 → Int32 → Hp → Option (Int32 × Hp)} (hfr : ∀ {x1 : Int32} {x2 : Int32} {h : Hp} {o : Int32 × Hp}, fr a0 x1 x2 h = some o → Fc a0 (a0 + 9) [] h o.2)  : ∀ (n : Nat) {x1 : Int32} {x2 : Int32} {x3 : Int32}  {h : Hp}, Fc a0 (a0 + 9) [] hs h → lp (F := Nat → Int32 → Int32 → Int32 → Hp → Option (Int32 × Hp)) (fun _ _ _ _ _ => none) (f_X4_pickWard_25 fr) n a0 x1 x2 x3 h = some o → Fc a0 (a0 + 9) [] hs o.2 := by
  intro n
  induction n with
  | zero =>
    intro x1 x2 x3  h hF hf
    have hf : (none : Option (Int32 × Hp)) = some o := hf
    cases hf
  | succ n hk25 =>
    intro x1 x2 x3  h hF hf
    have hf : f_X4_pickWard_25 fr  (lp (F := Nat → Int32 → Int32 → Int32 → Hp → Option (Int32 × Hp)) (fun _ _ _ _ _ => none) (f_X4_pickWard_25 fr) n) a0 x1 x2 x3 h = some o := hf
    unfold f_X4_pickWard_25 at hf
    rcases ite_or hf with hf | hf
    · obtain rfl := Option.some.inj hf
      exact hF
    · obtain ⟨q1, e9, hf⟩ := Option.bind_eq_some_iff.mp hf
      have e9 := mf_X8_holds e9
      have hF := hF.eqr e9
      clear e9
      rcases ite_or hf with hf | hf
      · exact mf_X4_pickWard_72 hfr hk25 hF hf
      · obtain ⟨-, hf⟩ := ite_some hf
        obtain ⟨m2, em, hf⟩ := lt_e hf
        have hF := Fc_sI hF em (Or.inl (by omega))
        clear em
        obtain ⟨q3, e9, hf⟩ := Option.bind_eq_some_iff.mp hf
        have hF := hF.trans (hfr e9)
        clear e9
        rcases ite_or hf with hf | hf
        · exact mf_X4_pickWard_72 hfr hk25 hF hf
        · obtain rfl := Option.some.inj hf
          exact hF
set_option maxRecDepth 100000 in
theorem mf_X4_pickWard_13 {a0 : Nat} {hs : Hp} {o : Int32 × Hp} {fr : Nat → Int32 → Int32 → Hp → Option (Int32 × Hp)} (hfr : ∀ {x1 : Int32} {x2 : Int32} {h : Hp} {o : Int32 × Hp}, fr a0 x1 x2 h = some o → Fc a0 (a0 + 9) [] h o.2)    {h : Hp} (hF : Fc a0 (a0 + 9) [] hs h) (hf : f_X4_pickWard_13 fr  a0 h = some o) : Fc a0 (a0 + 9) [] hs o.2 := by
  unfold f_X4_pickWard_13 at hf
  obtain ⟨q5, e9, hf⟩ := Option.bind_eq_some_iff.mp hf
  have hF := hF.trans ((mf_X4_pickParty e9).mono (by omega) (by omega) (fun k hk => by simp at hk))
  clear e9
  obtain rfl := Option.some.inj hf
  exact hF
set_option maxRecDepth 100000 in
theorem mf_X4_pickWard {a0 : Nat} : ∀ {n : Nat} {x1 : Int32} {x2 : Int32} {h : Hp} {o : Int32 × Hp}, f_X4_pickWard n a0 x1 x2 h = some o → Fc a0 (a0 + 9) [] h o.2 := by
  intro n
  induction n with
  | zero =>
    intro x1 x2 h o hf
    have hf : (none : Option (Int32 × Hp)) = some o := hf
    cases hf
  | succ n hfr =>
    intro x1 x2 h o hf
    have hf : f_X4_pickWard_0 (f_X4_pickWard n) a0 x1 x2 h = some o := hf
    have hF : Fc a0 (a0 + 9) [] h h := Fc.refl
    unfold f_X4_pickWard_0 at hf
    rcases ite_or hf with hf | hf
    · exact mf_X4_pickWard_13 hfr  hF hf
    · rcases ite_or hf with hf | hf
      · exact mf_X4_pickWard_25 hfr  1000 hF hf
      · exact mf_X4_pickWard_13 hfr  hF hf
set_option maxRecDepth 100000 in
theorem mf_X4_firstBetter_112 {a0 : Nat} {hs : Hp} {o : Int32 × Hp}  : ∀ (n : Nat) {x3 : Int32} {x4 : Int32}  {h : Hp}, Fc a0 (a0 + 9) [] hs h → lp (F := Nat → Int32 → Int32 → Hp → Option (Int32 × Hp)) (fun _ _ _ _ => none) (f_X4_firstBetter_112) n a0 x3 x4 h = some o → Fc a0 (a0 + 9) [] hs o.2 := by
  intro n
  induction n with
  | zero =>
    intro x3 x4  h hF hf
    have hf : (none : Option (Int32 × Hp)) = some o := hf
    cases hf
  | succ n hk112 =>
    intro x3 x4  h hF hf
    have hf : f_X4_firstBetter_112  (lp (F := Nat → Int32 → Int32 → Hp → Option (Int32 × Hp)) (fun _ _ _ _ => none) (f_X4_firstBetter_112) n) a0 x3 x4 h = some o := hf
    unfold f_X4_firstBetter_112 at hf
    rcases ite_or hf with hf | hf
    · obtain rfl := Option.some.inj hf
      exact hF
    · rcases ite_or hf with hf | hf
      · obtain rfl := Option.some.inj hf
        exact hF
      · obtain ⟨m14, em, hf⟩ := lt_e hf
        have hF := Fc_sI hF em (Or.inl (by omega))
        clear em
        obtain ⟨q15, e9, hf⟩ := Option.bind_eq_some_iff.mp hf
        have hF := hF.trans ((mf_X4_pickWard e9).mono (by omega) (by omega) (fun k hk => by simp at hk))
        clear e9
        rcases ite_or hf with hf | hf
        · obtain ⟨v16, -, hf⟩ := lt_e hf
          exact hk112 hF hf
        · obtain rfl := Option.some.inj hf
          exact hF
set_option maxRecDepth 100000 in
theorem mf_X4_firstBetter_37 {a0 : Nat} {hs : Hp} {o : Int32 × Hp}  : ∀ (n : Nat) {a1 : Nat} {x3 : Int32}  {h : Hp}, Fc a0 (a0 + 9) [] hs h → lp (F := Nat → Nat → Int32 → Hp → Option (Int32 × Hp)) (fun _ _ _ _ => none) (f_X4_firstBetter_37) n a0 a1 x3 h = some o → Fc a0 (a0 + 9) [] hs o.2 := by
  intro n
  induction n with
  | zero =>
    intro a1 x3  h hF hf
    have hf : (none : Option (Int32 × Hp)) = some o := hf
    cases hf
  | succ n hk37 =>
    intro a1 x3  h hF hf
    have hf : f_X4_firstBetter_37  (lp (F := Nat → Nat → Int32 → Hp → Option (Int32 × Hp)) (fun _ _ _ _ => none) (f_X4_firstBetter_37) n) a0 a1 x3 h = some o := hf
    unfold f_X4_firstBetter_37 at hf
    rcases ite_or hf with hf | hf
    · obtain ⟨q6, e9, hf⟩ := Option.bind_eq_some_iff.mp hf
      have e9 := mf_J6_bitCount_0f7a4 e9
      have hF := hF.eqr e9
      clear e9
      obtain ⟨q7, e9, hf⟩ := Option.bind_eq_some_iff.mp hf
      have e9 := mf_J6_bitCount_0f7a4 e9
      have hF := hF.eqr e9
      clear e9
      obtain ⟨v8, -, hf⟩ := lt_e hf
      exact mf_X4_firstBetter_112  1000 hF hf
    · obtain ⟨-, hf⟩ := ite_some hf
      obtain ⟨q9, e9, hf⟩ := Option.bind_eq_some_iff.mp hf
      have e9 := mf_X3_markAbove e9
      have hF := hF.eqr e9
      clear e9
      obtain ⟨-, hf⟩ := ite_some hf
      obtain ⟨m10, em, hf⟩ := lt_e hf
      have hF := Fc_sL hF em (Or.inl (by omega))
      clear em
      obtain ⟨-, hf⟩ := ite_some hf
      obtain ⟨q11, e9, hf⟩ := Option.bind_eq_some_iff.mp hf
      have e9 := mf_X3_markAbove e9
      have hF := hF.eqr e9
      clear e9
      obtain ⟨-, hf⟩ := ite_some hf
      obtain ⟨m12, em, hf⟩ := lt_e hf
      have hF := Fc_sL hF em (Or.inl (by omega))
      clear em
      obtain ⟨v13, -, hf⟩ := lt_e hf
      exact hk37 hF hf
set_option maxRecDepth 100000 in
theorem mf_X4_firstBetter {a0 : Nat} {a1 : Nat} {a2 : Nat} {h : Hp} {o : Int32 × Hp} (hf : f_X4_firstBetter a0 a1 a2 h = some o) : Fc a0 (a0 + 9) [] h o.2 := by
  have hF : Fc a0 (a0 + 9) [] h h := Fc.refl
  unfold f_X4_firstBetter at hf
  obtain ⟨m1, em, hf⟩ := lt_e hf
  have hF := Fc_rI hF em (Or.inl (by omega))
  clear em
  obtain ⟨-, hf⟩ := ite_some hf
  obtain ⟨m2, em, hf⟩ := lt_e hf
  have hF := Fc_rI hF em (Or.inl (by omega))
  clear em
  obtain ⟨q4, e9, hf⟩ := Option.bind_eq_some_iff.mp hf
  have e9 := mf_X3_planMarkBelow e9
  have hF := hF.eqr e9
  clear e9
  obtain ⟨m5, em, hf⟩ := lt_e hf
  have hF := Fc_sL hF em (Or.inl (by omega))
  clear em
  exact mf_X4_firstBetter_37  1000 hF hf
set_option maxRecDepth 100000 in
theorem mf_X2_solveFrom_25 {a0 : Nat} {hs : Hp} {o : Int32 × Hp}  : ∀ (n : Nat) {a1 : Nat} {x2 : Int32}  {h : Hp}, Fc a0 (a0 + 40) [] hs h → lp (F := Nat → Nat → Int32 → Hp → Option (Int32 × Hp)) (fun _ _ _ _ => none) (f_X2_solveFrom_25) n a0 a1 x2 h = some o → Fc a0 (a0 + 40) [] hs o.2 := by
  intro n
  induction n with
  | zero =>
    intro a1 x2  h hF hf
    have hf : (none : Option (Int32 × Hp)) = some o := hf
    cases hf
  | succ n hk25 =>
    intro a1 x2  h hF hf
    have hf : f_X2_solveFrom_25  (lp (F := Nat → Nat → Int32 → Hp → Option (Int32 × Hp)) (fun _ _ _ _ => none) (f_X2_solveFrom_25) n) a0 a1 x2 h = some o := hf
    unfold f_X2_solveFrom_25 at hf
    rcases ite_or hf with hf | hf
    · obtain rfl := Option.some.inj hf
      exact hF
    · obtain ⟨q4, e9, hf⟩ := Option.bind_eq_some_iff.mp hf
      have hF := hF.trans ((mf_X4_firstBetter e9).mono (by omega) (by omega) (fun k hk => by simp at hk))
      clear e9
      rcases ite_or hf with hf | hf
      · rcases ite_or hf with hf | hf
        · obtain rfl := Option.some.inj hf
          exact hF
        · obtain ⟨q5, e9, hf⟩ := Option.bind_eq_some_iff.mp hf
          have hF := hF.trans ((mf_X4_turn e9).mono (by omega) (by omega) (fun k hk => by simp only [List.mem_cons, List.not_mem_nil, or_false] at hk; first | (left; omega) | (right; simp only [List.mem_cons, List.not_mem_nil, or_false]; omega)))
          clear e9
          obtain ⟨v6, -, hf⟩ := lt_e hf
          exact hk25 hF hf
      · obtain rfl := Option.some.inj hf
        exact hF
set_option maxRecDepth 100000 in
theorem mf_X2_solveFrom {a0 : Nat} {a1 : Nat} {h : Hp} {o : Int32 × Hp} (hf : f_X2_solveFrom a0 a1 h = some o) : Fc a0 (a0 + 40) [] h o.2 := by
  have hF : Fc a0 (a0 + 40) [] h h := Fc.refl
  unfold f_X2_solveFrom at hf
  obtain ⟨q1, e9, hf⟩ := Option.bind_eq_some_iff.mp hf
  have e9 := mf_X3_wardBits e9
  have hF := hF.eqr e9
  clear e9
  obtain ⟨q2, e9, hf⟩ := Option.bind_eq_some_iff.mp hf
  have hF := hF.trans ((mf_X4_layOut e9).mono (by omega) (by omega) (fun k hk => by simp at hk))
  clear e9
  obtain ⟨q3, e9, hf⟩ := Option.bind_eq_some_iff.mp hf
  have hF := hF.trans ((mf_X2_begin e9).mono (by omega) (by omega) (fun k hk => by simp at hk))
  clear e9
  exact mf_X2_solveFrom_25  1000 hF hf
set_option maxRecDepth 100000 in
theorem mf_X2_settle_78 {a0 : Nat} {hs : Hp} {o : Int32 × Hp}    {h : Hp} (hF : Fc a0 (a0 + 40) [] hs h) (hf : f_X2_settle_78  a0 h = some o) : Fc a0 (a0 + 40) [] hs o.2 := by
  unfold f_X2_settle_78 at hf
  obtain rfl := Option.some.inj hf
  exact hF
set_option maxRecDepth 100000 in
theorem mf_X2_settle_70 {a0 : Nat} {hs : Hp} {o : Int32 × Hp}  {y0 : Int32}  {h : Hp} (hF : Fc a0 (a0 + 40) [] hs h) (hf : f_X2_settle_70  a0 y0 a0 h = some o) : Fc a0 (a0 + 40) [] hs o.2 := by
  unfold f_X2_settle_70 at hf
  obtain ⟨m5, em, hf⟩ := lt_e hf
  have hF := Fc_sI hF em (Or.inl (by omega))
  clear em
  obtain ⟨m6, em, hf⟩ := lt_e hf
  have hF := Fc_sI hF em (Or.inl (by omega))
  clear em
  exact mf_X2_settle_78  hF hf
set_option maxRecDepth 100000 in
theorem mf_X2_settle_54 {a0 : Nat} {hs : Hp} {o : Int32 × Hp}  {a1 : Nat} {y0 : Int32}  {h : Hp} (hF : Fc a0 (a0 + 40) [] hs h) (hf : f_X2_settle_54  a0 a1 y0 h = some o) : Fc a0 (a0 + 40) [] hs o.2 := by
  unfold f_X2_settle_54 at hf
  rcases ite_or hf with hf | hf
  · exact mf_X2_settle_70  hF hf
  · obtain ⟨q4, e9, hf⟩ := Option.bind_eq_some_iff.mp hf
    have hF := hF.trans ((mf_X2_solveFrom e9).mono (by omega) (by omega) (fun k hk => by simp at hk))
    clear e9
    exact mf_X2_settle_70  hF hf
set_option maxRecDepth 100000 in
theorem mf_X2_settle_53 {a0 : Nat} {hs : Hp} {o : Int32 × Hp}  {a1 : Nat}  {h : Hp} (hF : Fc a0 (a0 + 40) [] hs h) (hf : f_X2_settle_53  a0 a1 h = some o) : Fc a0 (a0 + 40) [] hs o.2 := by
  unfold f_X2_settle_53 at hf
  exact mf_X2_settle_54  hF hf
set_option maxRecDepth 100000 in
theorem mf_X2_settle {a0 : Nat} {a1 : Nat} {h : Hp} {o : Int32 × Hp} (hf : f_X2_settle a0 a1 h = some o) : Fc a0 (a0 + 40) [] h o.2 := by
  have hF : Fc a0 (a0 + 40) [] h h := Fc.refl
  unfold f_X2_settle at hf
  rcases ite_or hf with hf | hf
  · exact mf_X2_settle_78  hF hf
  · obtain ⟨q1, e9, hf⟩ := Option.bind_eq_some_iff.mp hf
    have e9 := mf_X3_sumOfSeats e9
    have hF := hF.eqr e9
    clear e9
    obtain ⟨q2, e9, hf⟩ := Option.bind_eq_some_iff.mp hf
    have e9 := mf_X2_hasPlans e9
    have hF := hF.eqr e9
    clear e9
    rcases ite_or hf with hf | hf
    · exact mf_X2_settle_53  hF hf
    · rcases ite_or hf with hf | hf
      · exact mf_X2_settle_53  hF hf
      · rcases ite_or hf with hf | hf
        · exact mf_X2_settle_53  hF hf
        · obtain ⟨q3, e9, hf⟩ := Option.bind_eq_some_iff.mp hf
          have hF := hF.trans ((mf_X1_fill e9).mono (by omega) (by omega) (fun k hk => by simp at hk))
          clear e9
          rcases ite_or hf with hf | hf
          · exact mf_X2_settle_53  hF hf
          · exact mf_X2_settle_54  hF hf
set_option maxRecDepth 100000 in
theorem mf_X8_bound {a0 : Nat} {x1 : Int32} {x2 : Int32} {x3 : Int32} {h : Hp} {o : Int64 × Hp} (hf : f_X8_bound a0 x1 x2 x3 h = some o) : Fc a0 (a0 + 108) [] h o.2 := by
  have hF : Fc a0 (a0 + 108) [] h h := Fc.refl
  unfold f_X8_bound at hf
  obtain ⟨q1, e9, hf⟩ := Option.bind_eq_some_iff.mp hf
  have e9 := mf_X8_within e9
  have hF := hF.eqr e9
  clear e9
  rcases ite_or hf with hf | hf
  · obtain rfl := Option.some.inj hf
    exact hF
  · obtain ⟨q2, e9, hf⟩ := Option.bind_eq_some_iff.mp hf
    have e9 := mf_X8_within e9
    have hF := hF.eqr e9
    clear e9
    rcases ite_or hf with hf | hf
    · obtain rfl := Option.some.inj hf
      exact hF
    · rcases ite_or hf with hf | hf
      · obtain rfl := Option.some.inj hf
        exact hF
      · obtain ⟨q3, e9, hf⟩ := Option.bind_eq_some_iff.mp hf
        have e9 := mf_X8_within e9
        have hF := hF.eqr e9
        clear e9
        rcases ite_or hf with hf | hf
        · obtain rfl := Option.some.inj hf
          exact hF
        · obtain ⟨q4, e9, hf⟩ := Option.bind_eq_some_iff.mp hf
          have hF := hF.trans ((mf_X2_settle e9).mono (by omega) (by omega) (fun k hk => by simp at hk))
          clear e9
          rcases ite_or hf with hf | hf
          · obtain rfl := Option.some.inj hf
            exact hF
          · obtain ⟨-, hf⟩ := ite_some hf
            rcases ite_or hf with hf | hf
            · obtain rfl := Option.some.inj hf
              exact hF
            · obtain ⟨-, hf⟩ := ite_some hf
              rcases ite_or hf with hf | hf
              · obtain rfl := Option.some.inj hf
                exact hF
              · obtain ⟨q5, e9, hf⟩ := Option.bind_eq_some_iff.mp hf
                have e9 := mf_X2_boundBetween e9
                have hF := hF.eqr e9
                clear e9
                obtain rfl := Option.some.inj hf
                exact hF
set_option maxRecDepth 100000 in
theorem mf_X8_cell {a0 : Nat} {x1 : Int32} {x2 : Int32} {h : Hp} {o : Int32 × Hp} (hf : f_X8_cell a0 x1 x2 h = some o) : Fc a0 (a0 + 108) [] h o.2 := by
  have hF : Fc a0 (a0 + 108) [] h h := Fc.refl
  unfold f_X8_cell at hf
  obtain ⟨q1, e9, hf⟩ := Option.bind_eq_some_iff.mp hf
  have e9 := mf_X8_within e9
  have hF := hF.eqr e9
  clear e9
  rcases ite_or hf with hf | hf
  · obtain rfl := Option.some.inj hf
    exact hF
  · obtain ⟨q2, e9, hf⟩ := Option.bind_eq_some_iff.mp hf
    have e9 := mf_X8_within e9
    have hF := hF.eqr e9
    clear e9
    rcases ite_or hf with hf | hf
    · obtain rfl := Option.some.inj hf
      exact hF
    · obtain ⟨q3, e9, hf⟩ := Option.bind_eq_some_iff.mp hf
      have hF := hF.trans ((mf_X2_settle e9).mono (by omega) (by omega) (fun k hk => by simp at hk))
      clear e9
      rcases ite_or hf with hf | hf
      · obtain ⟨q4, e9, hf⟩ := Option.bind_eq_some_iff.mp hf
        have e9 := mf_X8_cellOf e9
        have hF := hF.eqr e9
        clear e9
        obtain ⟨-, hf⟩ := ite_some hf
        obtain rfl := Option.some.inj hf
        exact hF
      · obtain rfl := Option.some.inj hf
        exact hF
set_option maxRecDepth 100000 in
theorem mf_X8_judge {a0 : Nat} {x1 : Int32} {x2 : Int32} {x3 : Int32} {h : Hp} {o : Int32 × Hp} (hf : f_X8_judge a0 x1 x2 x3 h = some o) : Fc a0 (a0 + 108) [] h o.2 := by
  have hF : Fc a0 (a0 + 108) [] h h := Fc.refl
  unfold f_X8_judge at hf
  obtain ⟨q1, e9, hf⟩ := Option.bind_eq_some_iff.mp hf
  have e9 := mf_X8_within e9
  have hF := hF.eqr e9
  clear e9
  rcases ite_or hf with hf | hf
  · obtain rfl := Option.some.inj hf
    exact hF
  · obtain ⟨q2, e9, hf⟩ := Option.bind_eq_some_iff.mp hf
    have e9 := mf_X8_within e9
    have hF := hF.eqr e9
    clear e9
    rcases ite_or hf with hf | hf
    · obtain rfl := Option.some.inj hf
      exact hF
    · obtain ⟨q3, e9, hf⟩ := Option.bind_eq_some_iff.mp hf
      have hF := hF.trans ((mf_X6_copyOut e9).mono (by omega) (by omega) (fun k hk => by simp only [List.mem_cons, List.not_mem_nil, or_false] at hk; first | (left; omega) | (right; simp only [List.mem_cons, List.not_mem_nil, or_false]; omega)))
      clear e9
      rcases ite_or hf with hf | hf
      · obtain rfl := Option.some.inj hf
        exact hF
      · obtain ⟨q4, e9, hf⟩ := Option.bind_eq_some_iff.mp hf
        have hF := hF.trans ((mf_X2_settle e9).mono (by omega) (by omega) (fun k hk => by simp at hk))
        clear e9
        rcases ite_or hf with hf | hf
        · obtain rfl := Option.some.inj hf
          exact hF
        · obtain ⟨q5, e9, hf⟩ := Option.bind_eq_some_iff.mp hf
          have e9 := mf_X2_takes e9
          have hF := hF.eqr e9
          clear e9
          rcases ite_or hf with hf | hf
          · obtain rfl := Option.some.inj hf
            exact hF
          · obtain ⟨q6, e9, hf⟩ := Option.bind_eq_some_iff.mp hf
            have hF := hF.trans ((mf_X4_firstBetter e9).mono (by omega) (by omega) (fun k hk => by simp at hk))
            clear e9
            rcases ite_or hf with hf | hf
            · rcases ite_or hf with hf | hf
              · obtain rfl := Option.some.inj hf
                exact hF
              · obtain ⟨q7, e9, hf⟩ := Option.bind_eq_some_iff.mp hf
                have e9 := mf_X4_partOfRing e9
                have hF := hF.eqr e9
                clear e9
                obtain rfl := Option.some.inj hf
                exact hF
            · obtain rfl := Option.some.inj hf
              exact hF
set_option maxRecDepth 100000 in
theorem mf_X8_lay {a0 : Nat} {x1 : Int32} {x2 : Int32} {h : Hp} {o : Int32 × Hp} (hf : f_X8_lay a0 x1 x2 h = some o) : Fc a0 (a0 + 108) [] h o.2 := by
  have hF : Fc a0 (a0 + 108) [] h h := Fc.refl
  unfold f_X8_lay at hf
  obtain ⟨q1, e9, hf⟩ := Option.bind_eq_some_iff.mp hf
  have e9 := mf_X8_within e9
  have hF := hF.eqr e9
  clear e9
  rcases ite_or hf with hf | hf
  · obtain rfl := Option.some.inj hf
    exact hF
  · obtain ⟨q2, e9, hf⟩ := Option.bind_eq_some_iff.mp hf
    have e9 := mf_X6_isThere e9
    have hF := hF.eqr e9
    clear e9
    rcases ite_or hf with hf | hf
    · obtain rfl := Option.some.inj hf
      exact hF
    · obtain ⟨q3, e9, hf⟩ := Option.bind_eq_some_iff.mp hf
      have hF := hF.trans ((mf_X2_settle e9).mono (by omega) (by omega) (fun k hk => by simp at hk))
      clear e9
      rcases ite_or hf with hf | hf
      · obtain ⟨q4, e9, hf⟩ := Option.bind_eq_some_iff.mp hf
        have hF := hF.trans ((mf_X6_copyIn e9).mono (by omega) (by omega) (fun k hk => by simp at hk))
        clear e9
        rcases ite_or hf with hf | hf
        · obtain rfl := Option.some.inj hf
          exact hF
        · obtain rfl := Option.some.inj hf
          exact hF
      · obtain rfl := Option.some.inj hf
        exact hF
set_option maxRecDepth 100000 in
theorem mf_X8_moved {a0 : Nat} {h : Hp} {o : Int32 × Hp} (hf : f_X8_moved a0 h = some o) : Fc a0 (a0 + 108) [] h o.2 := by
  have hF : Fc a0 (a0 + 108) [] h h := Fc.refl
  unfold f_X8_moved at hf
  obtain ⟨q1, e9, hf⟩ := Option.bind_eq_some_iff.mp hf
  have hF := hF.trans ((mf_X2_settle e9).mono (by omega) (by omega) (fun k hk => by simp at hk))
  clear e9
  rcases ite_or hf with hf | hf
  · obtain ⟨q2, e9, hf⟩ := Option.bind_eq_some_iff.mp hf
    have hF := hF.trans ((mf_X2_elsewhere e9).mono (by omega) (by omega) (fun k hk => by simp at hk))
    clear e9
    obtain rfl := Option.some.inj hf
    exact hF
  · obtain rfl := Option.some.inj hf
    exact hF
set_option maxRecDepth 100000 in
theorem mf_X8_solve {a0 : Nat} {h : Hp} {o : Int32 × Hp} (hf : f_X8_solve a0 h = some o) : Fc a0 (a0 + 108) [] h o.2 := by
  have hF : Fc a0 (a0 + 108) [] h h := Fc.refl
  unfold f_X8_solve at hf
  obtain ⟨q1, e9, hf⟩ := Option.bind_eq_some_iff.mp hf
  have hF := hF.trans ((mf_X2_settle e9).mono (by omega) (by omega) (fun k hk => by simp at hk))
  clear e9
  obtain rfl := Option.some.inj hf
  exact hF
set_option maxRecDepth 100000 in
theorem mf_X8_spellPlan_46 {a0 : Nat} {hs : Hp} {o : Int32 × Hp} {k28 : Nat → Int32 → Hp → Option (Int32 × Hp)} (hk28 : ∀ {x2 : Int32}  {h : Hp}, Fc a0 (a0 + 108) [] hs h → k28 a0 x2 h = some o → Fc a0 (a0 + 108) [] hs o.2) {x2 : Int32}  {h : Hp} (hF : Fc a0 (a0 + 108) [] hs h) (hf : f_X8_spellPlan_46 k28 a0 x2 h = some o) : Fc a0 (a0 + 108) [] hs o.2 := by
  unfold f_X8_spellPlan_46 at hf
  obtain ⟨q4, e9, hf⟩ := Option.bind_eq_some_iff.mp hf
  have e9 := mf_X8_cellOf e9
  have hF := hF.eqr e9
  clear e9
  obtain ⟨q5, e9, hf⟩ := Option.bind_eq_some_iff.mp hf
  have hF := hF.trans ((mf_X5_putSeats e9).mono (by omega) (by omega) (fun k hk => by simp at hk))
  clear e9
  obtain ⟨v6, -, hf⟩ := lt_e hf
  exact hk28 hF hf
set_option maxRecDepth 100000 in
theorem mf_X8_spellPlan_28 {a0 : Nat} {hs : Hp} {o : Int32 × Hp}  : ∀ (n : Nat) {x2 : Int32}  {h : Hp}, Fc a0 (a0 + 108) [] hs h → lp (F := Nat → Int32 → Hp → Option (Int32 × Hp)) (fun _ _ _ => none) (f_X8_spellPlan_28) n a0 x2 h = some o → Fc a0 (a0 + 108) [] hs o.2 := by
  intro n
  induction n with
  | zero =>
    intro x2  h hF hf
    have hf : (none : Option (Int32 × Hp)) = some o := hf
    cases hf
  | succ n hk28 =>
    intro x2  h hF hf
    have hf : f_X8_spellPlan_28  (lp (F := Nat → Int32 → Hp → Option (Int32 × Hp)) (fun _ _ _ => none) (f_X8_spellPlan_28) n) a0 x2 h = some o := hf
    unfold f_X8_spellPlan_28 at hf
    rcases ite_or hf with hf | hf
    · obtain rfl := Option.some.inj hf
      exact hF
    · rcases ite_or hf with hf | hf
      · exact mf_X8_spellPlan_46 hk28 hF hf
      · obtain ⟨q3, e9, hf⟩ := Option.bind_eq_some_iff.mp hf
        have hF := hF.trans ((mf_X5_putByte e9).mono (by omega) (by omega) (fun k hk => by simp at hk))
        clear e9
        exact mf_X8_spellPlan_46 hk28 hF hf
set_option maxRecDepth 100000 in
theorem mf_X8_spellPlan {a0 : Nat} {h : Hp} {o : Int32 × Hp} (hf : f_X8_spellPlan a0 h = some o) : Fc a0 (a0 + 108) [] h o.2 := by
  have hF : Fc a0 (a0 + 108) [] h h := Fc.refl
  unfold f_X8_spellPlan at hf
  obtain ⟨q1, e9, hf⟩ := Option.bind_eq_some_iff.mp hf
  have hF := hF.trans ((mf_X2_settle e9).mono (by omega) (by omega) (fun k hk => by simp at hk))
  clear e9
  rcases ite_or hf with hf | hf
  · obtain ⟨m2, em, hf⟩ := lt_e hf
    have hF := Fc_sI hF em (Or.inl (by omega))
    clear em
    exact mf_X8_spellPlan_28  1000 hF hf
  · obtain rfl := Option.some.inj hf
    exact hF
